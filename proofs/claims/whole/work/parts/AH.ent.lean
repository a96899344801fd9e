/-! The constructors: Entity. -/
def fu (g : Nat → Nat) (i v : Nat) : Nat → Nat := fun j => if j = i then v else g j
def ei (i : Nat) (g : Nat → Nat) : Nat → Option Nat := fun j => if j < i then some (g j) else none
theorem ei_up (i v : Nat) (g : Nat → Nat) : va_up (ei i g) i (some v) = ei (i + 1) (fu g i v) := by
  funext j
  unfold va_up ei fu
  by_cases e : j = i
  · rw [if_pos e, if_pos (by omega), if_pos e]
  · rw [if_neg e, if_neg e]
    by_cases e2 : j < i
    · rw [if_pos e2, if_pos (by omega)]
    · rw [if_neg e2, if_neg (by omega)]
theorem ei_0 (g : Nat → Nat) : ei 0 g = fun _ => none := by
  funext j; unfold ei; rw [if_neg (by omega)]
def EW (G : mt_G) (a q i : Nat) (g : Nat → Nat) : va_W := (a, .inr (2, [vi 0, vi 0, vi 0, vi 0, vi 0, vi 0, vi 0, vi 0, vi 0, vi 0, vi 0, vi 0, vi 0, .ref q])) :: (q, .inl (G.2.2.1 3, 8, .inr (.inr (.inr (.inr (ei i g)))))) :: (List.range i).map (fun f => (g f, .inr (3, zF)))
theorem EW_len (G : mt_G) (a q i : Nat) (g : Nat → Nat) : (EW G a q i g).length = 2 + i := by simp [EW]; omega
theorem EW_step (G : mt_G) (a q i v : Nat) (g : Nat → Nat) : (EW G a q i g ++ ([(v, .inr (3, zF))] : va_W)).set 1 (q, .inl (G.2.2.1 3, 8, .inr (.inr (.inr (.inr (va_up (ei i g) i (some v))))))) = EW G a q (i + 1) (fu g i v) := by
  rw [ei_up]
  unfold EW
  simp only [List.cons_append, List.set_cons_succ, List.set_cons_zero]
  congr 2
  rw [List.range_succ, List.map_append]
  have e1 : (List.range i).map (fun f => ((g f, .inr (3, zF)) : Nat × va_E)) = (List.range i).map (fun f => (fu g i v f, .inr (3, zF))) := List.map_congr_left (fun x hx => by
    have : x < i := List.mem_range.mp hx
    unfold fu; rw [if_neg (by omega)])
  rw [e1]
  show _ ++ [(v, Sum.inr (3, zF))] = _ ++ [(fu g i v i, Sum.inr (3, zF))]
  unfold fu
  rw [if_pos rfl]
theorem EW_last (G : mt_G) (a q i : Nat) (g : Nat → Nat) (x : Nat × va_E) : (EW G a q i g ++ [x])[2 + i]? = some x := by
  rw [List.getElem?_append_right (by rw [EW_len]; omega), EW_len, Nat.sub_self]; rfl
set_option maxHeartbeats 2000000 in
theorem kE_loop {G : mt_G} {X : mt_X} {o a q : Nat} {ws0 : va_W} {Po : va_W → Prop} (h : ON G X c_E_init R_E 2 o) (he : OKc G X 3 9 40 o Po) (hp : ∀ g, Po (ws0 ++ EW G a q 8 g)) : ∀ (j i : Nat) (g : Nat → Nat) (k n : Nat), i + j = 8 → k ≤ 1 + i → n ≤ 8 + 4 * i → NN G X o k n (ws0 ++ EW G a q i g) 15 [some (.ref a), some (vi (i : Int))] [] := by
  intro j
  induction j with
  | zero =>
    intro i g k n hi hk hn
    have e8 : i = 8 := by omega
    subst e8
    refine nn_iload_n h d_E_init_15 rfl ?_
    refine nn_bipush h d_E_init_16 (by decide) ?_
    refine nn_icmp_ge h 40 d_E_init_18 (by decide) ⟨by omega, by omega⟩ ⟨by omega, by omega⟩ (fun _ => ?_) (fun q18 => absurd (by omega) q18)
    exact nn_ret h he (by omega) (by omega) d_E_init_40 (hp g)
  | succ j ih =>
    intro i g k n hi hk hn
    have e9 : ((i : Int) + 1) = ((i + 1 : Nat) : Int) := by omega
    refine nn_iload_n h d_E_init_15 rfl ?_
    refine nn_bipush h d_E_init_16 (by decide) ?_
    refine nn_icmp_ge h 40 d_E_init_18 (by decide) ⟨by omega, by omega⟩ ⟨by omega, by omega⟩ (fun q18 => absurd q18 (by omega)) (fun _ => ?_)
    refine nn_aload_n h d_E_init_21 rfl ⟨_, rfl⟩ ?_
    refine nn_get h (q0 := ws0.length + 0) (kf := 13) ((wa_get 0).trans rfl) rfl rfl fl_E_11 d_E_init_22 ?_
    refine nn_iload_n h d_E_init_25 rfl ?_
    refine nn_new h (ci := 3) tf_F ty_F uw_F kl_E_9 ki_F kj_F rfl hf_F (nn_ro he (by omega) (by omega)) d_E_init_26 (fun v => ?_)
    refine nn_dup h d_E_init_29 rfl ?_
    refine nn_initN h (kF_init) kx_F kn_F wc_F_init kj_F ⟨rfl, by decide, by decide, by decide +kernel⟩ (rx_of he (by decide) (by decide) (by omega) (by omega)) rfl rfl rfl (Nat.le_of_ble_eq_true rfl) d_E_init_30 (fun ws9 hw9 => ?_)
    subst hw9
    rw [List.append_assoc]
    refine nn_ast h (q0 := ws0.length + 1) (t0 := 3) (qk := ws0.length + (2 + i)) (ci := 3) (r := (R_F, T_F, 4)) ((wa_get 1).trans rfl) rfl ((wa_get (2 + i)).trans (EW_last G a q i g _)) rfl (by decide) (by omega) (by omega) d_E_init_33 ?_
    rw [wa_set, Int.toNat_natCast, EW_step]
    refine nn_iinc h d_E_init_34 rfl rfl ?_
    rw [e9]
    refine nn_goto h 15 d_E_init_37 (by decide) ?_
    exact ih (i + 1) (fu g i v) _ _ (by omega) (by omega) (by omega)
theorem kE_init {G : mt_G} {l : Launch} {o a : Nat} {ws0 : va_W} : KC G l y_E_init c_E_init 2 3 9 40 o [.ref a] (ws0 ++ [(a, .inr (2, zE))]) (fun ws' => ∃ q g, ws' = ws0 ++ EW G a q 8 g) := by
  refine KC.intro (by decide) rfl rfl (by decide) (Nat.le_of_ble_eq_true rfl) (fun X hX h he => ?_)
  refine nn_aload_n h d_E_init_0 rfl ⟨_, rfl⟩ ?_
  refine nn_obj h ko_E rfl (Nat.le_of_ble_eq_true rfl) d_E_init_1 ?_
  refine nn_aload_n h d_E_init_4 rfl ⟨_, rfl⟩ ?_
  refine nn_bipush h d_E_init_5 (by decide) ?_
  refine nn_newq h kl_E_9 (t := 3) rfl (nn_aF h) (N := 8) rfl (by omega) (nn_ro he (by omega) (by omega)) d_E_init_7 (fun q => ?_)
  rw [List.append_assoc]
  refine nn_putF h (nn_i he) (q0 := ws0.length + 0) (kf := 13) (t0 := tf_E) (ty := .array (.object R_F)) ((wa_get 0).trans rfl) rfl (Nat.le_of_ble_eq_true rfl) fl_E_11 ty_E nm_E rfl rfl (by decide +kernel) rfl rfl d_E_init_10 ?_
  rw [wa_set]
  refine nn_iconst h d_E_init_13 ?_
  refine nn_istore_n h d_E_init_14 (Nat.le_of_ble_eq_true rfl) rfl ?_
  have e0 := kE_loop (q := q) (ws0 := ws0) h he (fun g => ⟨q, g, rfl⟩) 8 0 (fun _ => 0) (0 + 1) (0 + 8) (by omega) (by omega) (by omega)
  unfold EW at e0
  rw [ei_0] at e0
  exact e0

-- ===== a command read =====
def isCmd (x : Int32) : Prop := x = 43 ∨ x = 110 ∨ x = 45 ∨ x = 60 ∨ x = 64 ∨ x = 109 ∨ x = 120 ∨ x = 112
theorem ac_cmd {Z : Nat} {x l n : Int32} (h : isCmd x) : f_X5_accept Z x (-1) l n = some (1, x, l, n) := by
  rcases h with rfl | rfl | rfl | rfl | rfl | rfl | rfl | rfl <;> rfl
theorem ac_not {Z : Nat} {x l n : Int32} (h : ¬ isCmd x) : f_X5_accept Z x (-1) l n = some (0, -1, l, n) := by
  have e : f_X5_acceptCommand Z x (-1) = some (0, -1) := by
    unfold f_X5_acceptCommand
    rw [if_neg (fun q => h (Or.inl q)), if_neg (fun q => h (Or.inr (Or.inr (Or.inl q)))), if_neg (fun q => h (Or.inr (Or.inr (Or.inr (Or.inl q))))), if_neg (fun q => h (Or.inr (Or.inr (Or.inr (Or.inr (Or.inl q)))))), if_neg (fun q => h (Or.inr (Or.inr (Or.inr (Or.inr (Or.inr (Or.inl q))))))), if_neg (fun q => h (Or.inr (Or.inl q))), if_neg (fun q => h (Or.inr (Or.inr (Or.inr (Or.inr (Or.inr (Or.inr (Or.inr q)))))))), if_neg (fun q => h (Or.inr (Or.inr (Or.inr (Or.inr (Or.inr (Or.inr (Or.inl q)))))))) ]
  unfold f_X5_accept
  rw [if_pos rfl, e, Option.bind_some]
  rfl
theorem sel8 {α : Type} {x : Int32} {A B : α} (h : isCmd x) : (if x = 43 then A else if x = 110 then A else if x = 45 then A else if x = 60 then A else if x = 64 then A else if x = 109 then A else if x = 120 then A else if x = 112 then A else B) = A := by
  by_cases h1 : x = 43
  · rw [if_pos h1]
  rw [if_neg h1]
  by_cases h2 : x = 110
  · rw [if_pos h2]
  rw [if_neg h2]
  by_cases h3 : x = 45
  · rw [if_pos h3]
  rw [if_neg h3]
  by_cases h4 : x = 60
  · rw [if_pos h4]
  rw [if_neg h4]
  by_cases h5 : x = 64
  · rw [if_pos h5]
  rw [if_neg h5]
  by_cases h6 : x = 109
  · rw [if_pos h6]
  rw [if_neg h6]
  by_cases h7 : x = 120
  · rw [if_pos h7]
  rw [if_neg h7]
  by_cases h8 : x = 112
  · rw [if_pos h8]
  · exact absurd h (by rintro (q | q | q | q | q | q | q | q) <;> contradiction)
theorem nsel8 {α : Type} {x : Int32} {A B : α} (h : ¬ isCmd x) : (if x = 43 then A else if x = 110 then A else if x = 45 then A else if x = 60 then A else if x = 64 then A else if x = 109 then A else if x = 120 then A else if x = 112 then A else B) = B := by
  rw [if_neg (fun q => h (Or.inl q)), if_neg (fun q => h (Or.inr (Or.inl q))), if_neg (fun q => h (Or.inr (Or.inr (Or.inl q)))), if_neg (fun q => h (Or.inr (Or.inr (Or.inr (Or.inl q))))), if_neg (fun q => h (Or.inr (Or.inr (Or.inr (Or.inr (Or.inl q)))))), if_neg (fun q => h (Or.inr (Or.inr (Or.inr (Or.inr (Or.inr (Or.inl q))))))), if_neg (fun q => h (Or.inr (Or.inr (Or.inr (Or.inr (Or.inr (Or.inr (Or.inl q)))))))), if_neg (fun q => h (Or.inr (Or.inr (Or.inr (Or.inr (Or.inr (Or.inr (Or.inr q))))))))]
def Knd (a a' : Nat) (sg v lt nm : Int32) : Prop := (sg = 43 ∧ ∃ m : Nat, 1 ≤ m ∧ m ≤ 20 ∧ v = nI m ∧ lt = nI m ∧ nm = -1 ∧ a' = a + 1 + m) ∨ ((sg = 45 ∨ sg = 60) ∧ lt = 0 ∧ ∃ m : Nat, 1 ≤ m ∧ m ≤ 99 ∧ v = nI m ∧ nm = nI m) ∨ (sg = 64 ∧ lt = 0 ∧ ∃ m : Nat, m ≤ 256 ∧ v = nI m ∧ nm = nI m) ∨ ((sg = 109 ∨ sg = 120) ∧ lt = 0 ∧ ∃ m : Nat, m ≤ 3 ∧ v = nI m ∧ nm = nI m) ∨ ((sg = 110 ∨ sg = 112) ∧ lt = 0 ∧ nm = -1)
/-- a command from a to a' -/
def CmdOK (Z L : Nat) (F : Nat → Int32) (a a' : Nat) (sg v lt nm : Int32) : Prop := a < a' ∧ a' ≤ L ∧ Scan Z F (a' - a) a (-1) 0 (-1) sg lt nm ∧ Knd a a' sg v lt nm ∧ EndOk Z L F a' sg lt nm
theorem rc220_ok {Z L rm a : Nat} {G rd : Nat → Int32} : f_X8_readsCommand_c220 Z (nI L) G (nI a) 1 (nI rm) rd = some (nI a, 1, nI (rm + 1), rd) := by
  unfold f_X8_readsCommand_c220
  rw [if_neg c_01, kl, nI_1]
theorem rc220_no {Z L rm a : Nat} {G rd : Nat → Int32} : f_X8_readsCommand_c220 Z (nI L) G (nI a) 0 (nI rm) rd = some (nI a, 0, nI rm, rd) := by
  unfold f_X8_readsCommand_c220
  rw [if_pos rfl, kl, Int32.add_zero]
def rd3 (rd : Nat → Int32) (k : Nat) (x y z : Int32) : Nat → Int32 := upd (upd (upd rd (3 * k) x) (3 * k + 1) y) (3 * k + 2) z
theorem cmd_sg {x : Int32} (h : isCmd x) : x ≠ 59 := by
  rcases h with rfl | rfl | rfl | rfl | rfl | rfl | rfl | rfl <;> decide
theorem o_read {Z L a rm : Nat} {F G rd : Nat → Int32} {we : Int32} (hZ : 300 ≤ Z) (hL : L ≤ 60) (hG : ∀ i, i < L → G i = F i) (ha : a ≤ L) (hrm : rm ≤ 30) : (∃ a' sg v lt nm rd', f_X8_readsCommand Z (nI L) (nI a) we (nI rm) G rd = some (nI a', 1, nI (rm + 1), rd') ∧ CmdOK Z L F a a' sg v lt nm ∧ rd' (3 * rm) = sg ∧ rd' (3 * rm + 1) = v ∧ rd' (3 * rm + 2) = nI (a + 1) ∧ ∀ i, i < 3 * rm → rd' i = rd i) ∨ (∃ a' k c l n rd', f_X8_readsCommand Z (nI L) (nI a) we (nI rm) G rd = some (nI a', 0, nI rm, rd') ∧ a' = a + k ∧ a' ≤ L ∧ Scan Z F k a (-1) 0 (-1) c l n ∧ Bad Z L F a' c l n ∧ ∀ i, i < 3 * rm → rd' i = rd i) := by
  by_cases hc : a < L ∧ isCmd (F a)
  · obtain ⟨h, hc⟩ := hc
    have hsc : ∀ k c l n, Scan Z F k (a + 1) (F a) 0 (-1) c l n → Scan Z F (k + 1) a (-1) 0 (-1) c l n := fun k c l n q => ⟨cmd_sg hc, _, _, _, ac_cmd hc, q⟩
    have h0 : f_X8_readsCommand Z (nI L) (nI a) we (nI rm) G rd = f_X8_readsCommand_c86 Z (nI L) G (nI (3 * rm)) (F a) (nI a) 1 (nI a) 1 (nI rm) rd := by
      unfold f_X8_readsCommand
      rw [l_3, pk_mul, kl, sign_in hL h, Option.bind_some, hG a h, sel8 hc]
      unfold f_X8_readsCommand_c61 f_X8_readsCommand_c66
      rw [q_kb1, if_neg c_01]
    have lo : ∀ x y z i, i < 3 * rm → rd3 rd rm x y z i = rd i := fun x y z i hi => by
      unfold rd3
      rw [pk_un (by omega), pk_un (by omega), pk_un (by omega)]
    -- what each kind of command does with its number
    have num : ∀ (lo' hi : Nat) (Kn : Nat → Prop), F a ≠ 43 → F a ≠ 110 → F a ≠ 112 → f_X5_leastNumber Z (F a) = some (nI lo') → f_X5_greatestNumber Z (F a) = some (nI hi) → lo' ≤ 1 → hi ≤ 256 → (∀ a' m : Nat, lo' ≤ m → m ≤ hi → Knd a a' (F a) (nI m) 0 (nI m)) →
        f_X8_readsCommand Z (nI L) (nI a) we (nI rm) G rd = ((f_X8_number Z (nI lo') (nI hi) (nI L) (nI (a + 1)) 1 G).bind fun (r, at', we') => f_X8_readsCommand_c220 Z (nI L) G at' we' (nI rm) (upd (rd3 rd rm (F a) 0 (nI (a + 1))) (3 * rm + 1) r)) →
        (∃ a' sg v lt nm rd', f_X8_readsCommand Z (nI L) (nI a) we (nI rm) G rd = some (nI a', 1, nI (rm + 1), rd') ∧ CmdOK Z L F a a' sg v lt nm ∧ rd' (3 * rm) = sg ∧ rd' (3 * rm + 1) = v ∧ rd' (3 * rm + 2) = nI (a + 1) ∧ ∀ i, i < 3 * rm → rd' i = rd i) ∨ (∃ a' k c l n rd', f_X8_readsCommand Z (nI L) (nI a) we (nI rm) G rd = some (nI a', 0, nI rm, rd') ∧ a' = a + k ∧ a' ≤ L ∧ Scan Z F k a (-1) 0 (-1) c l n ∧ Bad Z L F a' c l n ∧ ∀ i, i < 3 * rm → rd' i = rd i) := fun lo' hi _ g1 g2 g3 g4 g5 g6 g7 g8 g9 => by
      have gm : F a ≠ -1 := fun e => by
        rw [e] at hc
        rcases hc with q | q | q | q | q | q | q | q <;> exact absurd q (by decide)
      rcases o_number (Z := Z) (F := F) (G := G) (a := a + 1) hZ hL hG gm g1 g2 g3 g4 g5 g6 g7 (by omega) with ⟨v, k, j1, j2, j3, j4, j5, j6⟩ | ⟨r, j1, j2⟩
      · refine Or.inl ⟨a + 1 + k, F a, nI v, 0, nI v, upd (rd3 rd rm (F a) 0 (nI (a + 1))) (3 * rm + 1) (nI v), ?_, ⟨by omega, j1, ?_, g8 _ v j2 j3, j6⟩, ?_, pk_us, ?_, fun i hi => ?_⟩
        · rw [g9, j4, Option.bind_some]
          exact rc220_ok
        · rw [show a + 1 + k - a = k + 1 by omega]
          exact hsc _ _ _ _ j5
        · unfold rd3
          rw [pk_un (by omega), pk_un (by omega), pk_un (by omega), pk_us]
        · unfold rd3
          rw [pk_un (by omega), pk_us]
        · rw [pk_un (by omega)]
          exact lo _ _ _ i hi
      · refine Or.inr ⟨a + 1, 1, F a, 0, -1, upd (rd3 rd rm (F a) 0 (nI (a + 1))) (3 * rm + 1) r, ?_, rfl, by omega, hsc 0 _ _ _ ⟨rfl, rfl, rfl⟩, j2, fun i hi => ?_⟩
        · rw [g9, j1, Option.bind_some]
          exact rc220_no
        · rw [pk_un (by omega)]
          exact lo _ _ _ i hi
    have pre : f_X8_readsCommand_c86 Z (nI L) G (nI (3 * rm)) (F a) (nI a) 1 (nI a) 1 (nI rm) rd = (if F a = 43 then
      (f_X8_letters Z (nI L) (nI (a + 1)) 1 G).bind fun (r26, aAt_26, aWe_26) =>
      f_X8_readsCommand_c220 Z (nI L) G aAt_26 aWe_26 (nI rm) (upd (rd3 rd rm (F a) 0 (nI (a + 1))) (3 * rm + 1) r26)
    else
      if F a = 45 then
        f_X8_readsCommand_c151 Z (nI L) G (nI (3 * rm)) (nI (a + 1)) 1 (nI rm) (rd3 rd rm (F a) 0 (nI (a + 1)))
      else
        if F a = 60 then
          f_X8_readsCommand_c151 Z (nI L) G (nI (3 * rm)) (nI (a + 1)) 1 (nI rm) (rd3 rd rm (F a) 0 (nI (a + 1)))
        else
          if F a = 64 then
            (f_X8_number Z 0 256 (nI L) (nI (a + 1)) 1 G).bind fun (r23, aAt_23, aWe_23) =>
            f_X8_readsCommand_c220 Z (nI L) G aAt_23 aWe_23 (nI rm) (upd (rd3 rd rm (F a) 0 (nI (a + 1))) (3 * rm + 1) r23)
          else
            if F a = 109 then
              f_X8_readsCommand_c206 Z (nI L) G (nI (3 * rm)) (nI (a + 1)) 1 (nI rm) (rd3 rd rm (F a) 0 (nI (a + 1)))
            else
              if F a = 120 then
                f_X8_readsCommand_c206 Z (nI L) G (nI (3 * rm)) (nI (a + 1)) 1 (nI rm) (rd3 rd rm (F a) 0 (nI (a + 1)))
              else
                f_X8_readsCommand_c220 Z (nI L) G (nI (a + 1)) 1 (nI rm) (rd3 rd rm (F a) 0 (nI (a + 1)))) := by
      unfold f_X8_readsCommand_c86 rd3
      simp (disch := omega) only [nI_1, nI_2, kl, z_rd, nI_clamp]
    have e151 : f_X8_readsCommand_c151 Z (nI L) G (nI (3 * rm)) (nI (a + 1)) 1 (nI rm) (rd3 rd rm (F a) 0 (nI (a + 1))) = ((f_X8_number Z (nI 1) (nI 99) (nI L) (nI (a + 1)) 1 G).bind fun (r, at', we') => f_X8_readsCommand_c220 Z (nI L) G at' we' (nI rm) (upd (rd3 rd rm (F a) 0 (nI (a + 1))) (3 * rm + 1) r)) := by
      unfold f_X8_readsCommand_c151
      simp (disch := omega) only [nI_1, kl, z_rd, nI_clamp]
      rfl
    have e206 : f_X8_readsCommand_c206 Z (nI L) G (nI (3 * rm)) (nI (a + 1)) 1 (nI rm) (rd3 rd rm (F a) 0 (nI (a + 1))) = ((f_X8_number Z (nI 0) (nI 3) (nI L) (nI (a + 1)) 1 G).bind fun (r, at', we') => f_X8_readsCommand_c220 Z (nI L) G at' we' (nI rm) (upd (rd3 rd rm (F a) 0 (nI (a + 1))) (3 * rm + 1) r)) := by
      unfold f_X8_readsCommand_c206
      simp (disch := omega) only [nI_1, kl, z_rd, nI_clamp]
      rfl
    have plain : (F a = 110 ∨ F a = 112) → f_X8_readsCommand_c86 Z (nI L) G (nI (3 * rm)) (F a) (nI a) 1 (nI a) 1 (nI rm) rd = f_X8_readsCommand_c220 Z (nI L) G (nI (a + 1)) 1 (nI rm) (rd3 rd rm (F a) 0 (nI (a + 1))) → (∃ a' sg v lt nm rd', f_X8_readsCommand Z (nI L) (nI a) we (nI rm) G rd = some (nI a', 1, nI (rm + 1), rd') ∧ CmdOK Z L F a a' sg v lt nm ∧ rd' (3 * rm) = sg ∧ rd' (3 * rm + 1) = v ∧ rd' (3 * rm + 2) = nI (a + 1) ∧ ∀ i, i < 3 * rm → rd' i = rd i) := fun hk he => by
      refine ⟨a + 1, F a, 0, 0, -1, rd3 rd rm (F a) 0 (nI (a + 1)), ?_, ⟨by omega, by omega, ?_, ?_, ?_⟩, ?_, ?_, ?_, fun i hi => lo _ _ _ i hi⟩
      · rw [h0, he, rc220_ok]
      · rw [show a + 1 - a = 0 + 1 by omega]
        exact hsc 0 _ _ _ ⟨rfl, rfl, rfl⟩
      · exact Or.inr (Or.inr (Or.inr (Or.inr ⟨hk, rfl, rfl⟩)))
      · refine ⟨?_, fun h2 h59 => ?_, ?_⟩
        · rcases hk with q | q <;> rw [q] <;> rfl
        · have gn : f_X5_accept Z (F (a + 1)) (F a) 0 (-1) = some (0, F a, 0, -1) := by
            have gm : F a ≠ -1 := by rcases hk with q | q <;> rw [q] <;> decide
            have g43 : F a ≠ 43 := by rcases hk with q | q <;> rw [q] <;> decide
            rcases fig_cases (F (a + 1)) with hx | ⟨a1, a2, d, hd, hx⟩
            · exact dg_no gm h59 g43 hx
            · rw [dg_gen gm h59 g43]
              have e : f_X5_acceptDigit Z (F (a + 1)) (F a) (-1) = some (0, -1) := by
                have hle : f_X5_leastNumber Z (F a) = some 0 := by rcases hk with q | q <;> rw [q] <;> rfl
                have hgr : f_X5_greatestNumber Z (F a) = some (-1) := by rcases hk with q | q <;> rw [q] <;> rfl
                unfold f_X5_acceptDigit f_X5_acceptDigit_c12
                rw [if_neg (by decide), if_neg a1, if_neg a2, if_pos rfl, if_neg (by decide), kl, kl, hx, show (10 : Int32) * 0 + nI (48 + d) - 48 = nI d from by rw [l_10, l_0, pk_mul, nI_add, show (48 : Int32) = nI 48 from rfl, pk_sub (by omega), show 10 * 0 + (48 + d) - 48 = d by omega], hle, Option.bind_some, hgr, if_neg (nI_pos (by omega)), Option.bind_some, if_neg (by rw [Int32.not_le]; rw [Int32.lt_iff_toInt_lt, nI_toInt (by omega), show (-1 : Int32).toInt = -1 from by decide]; omega)]
              rw [e, Option.bind_some]
              rfl
          exact ⟨_, _, _, gn⟩
        · rcases hk with q | q <;> rw [q] <;> decide
      · unfold rd3
        rw [pk_un (by omega), pk_un (by omega), pk_us]
      · unfold rd3
        rw [pk_un (by omega), pk_us]
      · unfold rd3
        rw [pk_us]
    have hc' := hc
    rcases hc with q | q | q | q | q | q | q | q
    · -- letters
      rw [if_pos q] at pre
      obtain ⟨k, j1, j2, j3, j4, j5⟩ := o_letters (Z := Z) (F := F) (G := G) (we := 1) hL hG Z 0 (a + 1) (by omega) (by omega) (by omega)
      rw [Nat.zero_add] at *
      have j3 : f_X8_letters Z (nI L) (nI (a + 1)) 1 G = _ := j3
      rw [j3, Option.bind_some] at pre
      have j4 : Scan Z F k (a + 1) (F a) 0 (-1) 43 (nI k) (-1) := by
        rw [q]
        exact j4
      by_cases hk : k = 0
      · subst hk
        refine Or.inr ⟨a + 1, 1, 43, 0, -1, _, (h0.trans pre).trans (by rw [if_pos rfl]; exact rc220_no), rfl, by omega, hsc 0 _ _ _ j4, ?_, fun i hi => ?_⟩
        · have hend : f_X5_isAtEnd Z 43 0 (-1) = some 0 := rfl
          refine ⟨fun h2 => ?_, fun _ => hend⟩
          by_cases w : F (a + 1) = 59
          · rw [w]
            exact ⟨_, _, _, sep_bad (by decide) hend⟩
          · exact j5 h2 w
        · rw [pk_un (by omega)]
          exact lo _ _ _ i hi
      · refine Or.inl ⟨a + 1 + k, 43, nI k, nI k, -1, _, (h0.trans pre).trans (by rw [if_neg hk]; exact rc220_ok), ⟨by omega, j1, ?_, Or.inl ⟨rfl, k, by omega, j2, rfl, rfl, rfl, rfl⟩, ?_, j5, by decide⟩, ?_, pk_us, ?_, fun i hi => ?_⟩
        · rw [show a + 1 + k - a = k + 1 by omega]
          exact hsc _ _ _ _ j4
        · rw [at_end_plus j2, if_neg hk]
        · unfold rd3
          rw [pk_un (by omega), pk_un (by omega), pk_un (by omega), pk_us, q]
        · unfold rd3
          rw [pk_un (by omega), pk_us]
        · rw [pk_un (by omega)]
          exact lo _ _ _ i hi
    · rw [q, if_neg (by decide), if_neg (by decide), if_neg (by decide), if_neg (by decide), if_neg (by decide), if_neg (by decide), ← q] at pre
      exact Or.inl (plain (Or.inl q) pre)
    · rw [q, if_neg (by decide), if_pos rfl, ← q, e151] at pre
      exact num 1 99 (fun _ => True) (by rw [q]; decide) (by rw [q]; decide) (by rw [q]; decide) (by rw [q]; rfl) (by rw [q]; rfl) (by omega) (by omega) (fun a' m y1 y2 => Or.inr (Or.inl ⟨Or.inl q, rfl, m, y1, y2, rfl, rfl⟩)) (h0.trans pre)
    · rw [q, if_neg (by decide), if_neg (by decide), if_pos rfl, ← q, e151] at pre
      exact num 1 99 (fun _ => True) (by rw [q]; decide) (by rw [q]; decide) (by rw [q]; decide) (by rw [q]; rfl) (by rw [q]; rfl) (by omega) (by omega) (fun a' m y1 y2 => Or.inr (Or.inl ⟨Or.inr q, rfl, m, y1, y2, rfl, rfl⟩)) (h0.trans pre)
    · rw [q, if_neg (by decide), if_neg (by decide), if_neg (by decide), if_pos rfl, ← q] at pre
      exact num 0 256 (fun _ => True) (by rw [q]; decide) (by rw [q]; decide) (by rw [q]; decide) (by rw [q]; rfl) (by rw [q]; rfl) (by omega) (by omega) (fun a' m y1 y2 => Or.inr (Or.inr (Or.inl ⟨q, rfl, m, y2, rfl, rfl⟩))) (h0.trans pre)
    · rw [q, if_neg (by decide), if_neg (by decide), if_neg (by decide), if_neg (by decide), if_pos rfl, ← q, e206] at pre
      exact num 0 3 (fun _ => True) (by rw [q]; decide) (by rw [q]; decide) (by rw [q]; decide) (by rw [q]; rfl) (by rw [q]; rfl) (by omega) (by omega) (fun a' m y1 y2 => Or.inr (Or.inr (Or.inr (Or.inl ⟨Or.inl q, rfl, m, y2, rfl, rfl⟩)))) (h0.trans pre)
    · rw [q, if_neg (by decide), if_neg (by decide), if_neg (by decide), if_neg (by decide), if_neg (by decide), if_pos rfl, ← q, e206] at pre
      exact num 0 3 (fun _ => True) (by rw [q]; decide) (by rw [q]; decide) (by rw [q]; decide) (by rw [q]; rfl) (by rw [q]; rfl) (by omega) (by omega) (fun a' m y1 y2 => Or.inr (Or.inr (Or.inr (Or.inl ⟨Or.inr q, rfl, m, y2, rfl, rfl⟩)))) (h0.trans pre)
    · rw [q, if_neg (by decide), if_neg (by decide), if_neg (by decide), if_neg (by decide), if_neg (by decide), if_neg (by decide), ← q] at pre
      exact Or.inl (plain (Or.inr q) pre)
  · -- no command begins here
    have hx : ∃ x, f_X8_sign Z (nI L) (nI a) G = some x ∧ ¬ isCmd x ∧ (a < L → x = F a) := by
      rcases Nat.lt_or_ge a L with h | h
      · exact ⟨F a, by rw [sign_in hL h, hG a h], fun q => hc ⟨h, q⟩, fun _ => rfl⟩
      · refine ⟨0, sign_out (by omega) h, ?_, fun h2 => absurd h2 (by omega)⟩
        rintro (q | q | q | q | q | q | q | q) <;> exact absurd q (by decide)
    obtain ⟨x, x1, x2, x3⟩ := hx
    refine Or.inr ⟨a, 0, -1, 0, -1, rd3 rd rm x 0 (nI a), ?_, rfl, ha, ⟨rfl, rfl, rfl⟩, ⟨fun h2 => ?_, fun _ => rfl⟩, fun i hi => ?_⟩
    · unfold f_X8_readsCommand
      rw [l_3, pk_mul, kl, x1, Option.bind_some, nsel8 x2]
      unfold f_X8_readsCommand_c66 f_X8_readsCommand_c86 rd3
      rw [q_kb0, if_pos rfl, Int32.add_zero]
      simp (disch := omega) only [nI_1, nI_2, kl, z_rd, nI_clamp]
      rw [if_neg (fun q => x2 (Or.inl q)), if_neg (fun q => x2 (Or.inr (Or.inr (Or.inl q)))), if_neg (fun q => x2 (Or.inr (Or.inr (Or.inr (Or.inl q))))), if_neg (fun q => x2 (Or.inr (Or.inr (Or.inr (Or.inr (Or.inl q)))))), if_neg (fun q => x2 (Or.inr (Or.inr (Or.inr (Or.inr (Or.inr (Or.inl q))))))), if_neg (fun q => x2 (Or.inr (Or.inr (Or.inr (Or.inr (Or.inr (Or.inr (Or.inl q))))))))]
      exact rc220_no
    · rw [← x3 h2]
      exact ⟨_, _, _, ac_not x2⟩
    · unfold rd3
      rw [pk_un (by omega), pk_un (by omega), pk_un (by omega)]

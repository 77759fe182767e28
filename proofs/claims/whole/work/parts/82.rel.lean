-- ===== the relation between the class's fields and the reference's =====
def RS (σ : StT) (s : Nat → Int32) : Prop := ∃ n c g q cp l : Nat, (n ≤ 256 ∧ c ≤ n ∧ g ≤ n ∧ q ≤ 256 ∧ l ≤ 60 ∧ n ≤ cp ∧ (cp = 8 ∨ cp = 16 ∨ cp = 32 ∨ cp = 64 ∨ cp = 128 ∨ cp = 256)) ∧ (s_tN σ = nI n ∧ s_vCar σ = nI c ∧ s_kGap σ = nI g ∧ s_vGoa σ = nI q ∧ s_kCap σ = nI cp ∧ s_cN σ = nI l) ∧ (s_vEag σ = 0 ∨ s_vEag σ = 1) ∧ (s 0 = nI n ∧ s 1 = nI c ∧ s 2 = nI g ∧ s 3 = nI cp ∧ s 4 = s_kCar σ ∧ s 5 = s_kCop σ ∧ s 6 = s_kGro σ ∧ s 7 = s_kShr σ ∧ s 8 = nI q ∧ s 9 = s_vEag σ ∧ s 10 = nI l) ∧ (∀ m, m < 4 → s (12 + m) = s_mP σ m ∧ s (16 + m) = s_mS σ m ∧ (s_mP σ m = -1 ∨ ∃ p, p ≤ n ∧ s_mP σ m = nI p)) ∧ (∀ i, i < n → s (80 + i) = s_tF σ i) ∧ (∀ i, i < l → s (20 + i) = s_cF σ i)
def RH (hX hC : Int32) (hR : Nat → StT) (aSm : Int32) (aSv : Nat → Int32) : Prop := ∃ cnt x : Nat, cnt ≤ 6 ∧ x ≤ 6 ∧ hC = nI cnt ∧ aSm = nI cnt ∧ hX = nI x ∧ ∀ j, j < cnt → RS (hR ((x + 12 - cnt + j) % 6)) (fun i => aSv (344 * j + i))
def RC (bN : Int32) (bF : Nat → Int32) (aLn : Int32) (aCm : Nat → Int32) : Prop := ∃ L : Nat, L ≤ 60 ∧ bN = nI L ∧ aLn = nI L ∧ ∀ i, i < L → bF i = aCm i
def Rel (vCar : Int32) (vGoa : Int32) (vEag : Int32) (tN : Int32) (tF : Nat → Int32) (cN : Int32) (cF : Nat → Int32) (mP : Nat → Int32) (mS : Nat → Int32) (kCap : Int32) (kGap : Int32) (kCar : Int32) (kCop : Int32) (kGro : Int32) (kShr : Int32) (bN : Int32) (bF : Nat → Int32) (rCmd : Int32) (rLet : Int32) (rNum : Int32) (fCap : Int32) (fGap : Int32) (fCar : Int32) (fCop : Int32) (fGro : Int32) (fShr : Int32) (hX : Int32) (hC : Int32) (hR : Nat → StT) (aTh : Int32) (aSm : Int32) (aLn : Int32) (aAt : Int32) (aWe : Int32) (aRm : Int32) (aBm : Int32) (aHa : Int64) (aS : Nat → Int32) (aSv : Nat → Int32) (aCm : Nat → Int32) (aRd : Nat → Int32) (aBy : Nat → Int32) : Prop := RS (vCar, vGoa, vEag, tN, tF, cN, cF, mP, mS, kCap, kGap, kCar, kCop, kGro, kShr) aS ∧ RH hX hC hR aSm aSv ∧ RC bN bF aLn aCm
theorem rel0 : Rel 0 0 0 0 (fun _ => 0) 0 (fun _ => 0) mP0 (fun _ => 0) 8 0 0 0 0 0 0 (fun _ => 0) (-1) 0 (-1) 8 0 0 0 0 0 0 0 (fun _ => st0) 0 0 0 0 0 0 0 0 s0 (fun _ => 0) (fun _ => 0) (fun _ => 0) (fun _ => 0) := by
  refine ⟨⟨0, 0, 0, 0, 8, 0, ⟨by omega, by omega, by omega, by omega, by omega, by omega, Or.inl rfl⟩, ⟨rfl, rfl, rfl, rfl, rfl, rfl⟩, Or.inl rfl, ⟨rfl, rfl, rfl, rfl, rfl, rfl, rfl, rfl, rfl, rfl, rfl⟩, fun m hm => ?_, fun i hi => absurd hi (by omega), fun i hi => absurd hi (by omega)⟩, ⟨0, 0, by omega, by omega, rfl, rfl, rfl, fun j hj => absurd hj (by omega)⟩, ⟨0, by omega, rfl, rfl, fun i hi => absurd hi (by omega)⟩⟩
  have : m = 0 ∨ m = 1 ∨ m = 2 ∨ m = 3 := by omega
  rcases this with rfl | rfl | rfl | rfl <;> exact ⟨rfl, rfl, Or.inl rfl⟩
theorem pb_length {Z : Nat} : PB_length Z Rel := by
  intro vCar vGoa vEag tN tF cN cF mP mS kCap kGap kCar kCop kGro kShr bN bF rCmd rLet rNum fCap fGap fCar fCop fGro fShr hX hC hR aTh aSm aLn aAt aWe aRm aBm aHa aS aSv aCm aRd aBy h
  have h1 := h.1
  obtain ⟨n, c, g, q, cp, l, hb, hv, he, hs, -⟩ := h1
  refine ⟨_, 0, rfl, ?_, h⟩
  unfold f_X8_length
  rw [rd_0, tn_0, hs.1]
  show some (nI n, _) = some (tN, _)
  rw [show tN = nI n from hv.1]

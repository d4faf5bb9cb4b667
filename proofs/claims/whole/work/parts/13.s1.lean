/-! ===== who stays ===== -/
theorem bt_1h : ∀ i, i < 17 → ∀ k, k < 32 → bt ((1 : Int32) <<< (nI i &&& 31)) k = decide (k = i) := by decide +kernel
theorem dm_hi (f g : Nat → Int32) {k : Nat} (hk : k < 32) (hk2 : 17 ≤ k) : ∀ N, N ≤ 17 → bt (dm f g N) k = false
  | 0, _ => bt_0 k
  | N + 1, hN => by
    rw [dm_S, bt_or, dm_hi f g hk hk2 N (by omega)]
    by_cases c : f N = g N
    · rw [if_pos c, bt_0]; rfl
    · rw [if_neg c, bt_1h N (by omega) k hk]
      simp
      omega
theorem bt_ext {x y : Int32} (h : ∀ k, k < 32 → bt x k = bt y k) : x = y := by
  apply Int32.toBitVec_inj.1
  apply BitVec.eq_of_getLsbD_eq
  intro k hk
  exact h k hk
/-- nothing held differs, up to item N -/
def okU (h : Int32) (f g : Nat → Int32) : Nat → Bool
  | 0 => true
  | N + 1 => okU h f g N && (!(bt h N) || decide (g N = f N))
theorem okU_S (h : Int32) (f g : Nat → Int32) (N : Nat) : okU h f g (N + 1) = (okU h f g N && (!(bt h N) || decide (g N = f N))) := rfl
theorem okU_all (h : Int32) (f g : Nat → Int32) : ∀ N, okU h f g N = true ↔ ∀ k, k < N → bt h k = true → g k = f k
  | 0 => ⟨fun _ k hk => by omega, fun _ => rfl⟩
  | N + 1 => by
    rw [okU_S, Bool.and_eq_true, okU_all h f g N]
    constructor
    · rintro ⟨h1, h2⟩ k hk hb
      by_cases c : k = N
      · subst c
        simpa [hb] using h2
      · exact h1 k (by omega) hb
    · intro h1
      refine ⟨fun k hk => h1 k (by omega), ?_⟩
      cases hb : bt h N with
      | false => rfl
      | true => simpa using h1 N (by omega) hb
theorem ok_dm (h : Int32) (f g : Nat → Int32) : (h &&& dm f g 17 = 0) ↔ okU h f g 17 = true := by
  rw [okU_all]
  constructor
  · intro e k hk hb
    have := congrArg (fun z => bt z k) e
    simp only [bt_and, bt_0, hb, Bool.true_and, dm_bit f g hk 17 (Nat.le_refl _)] at this
    simp [hk] at this
    exact this.symm
  · intro e
    apply bt_ext
    intro k hk
    rw [bt_and, bt_0]
    by_cases c : k < 17
    · rw [dm_bit f g c 17 (Nat.le_refl _)]
      cases hb : bt h k with
      | false => rfl
      | true =>
        have := e k c hb
        simp [this]
    · rw [dm_hi f g hk (by omega) 17 (Nat.le_refl _)]
      simp
theorem x_staying {σ : St} (hI : Iv σ) {nc : Nat} (hnc : nc ≤ 12) (n1 : σ (8, 0) 11 = nI nc) : fX8_staying σ = some (cn (fun i => mem σ i && okU (σ (0, i) 1) (σ (28, 0)) (fun a => itm σ a i) 17) nc) := by
  unfold fX8_staying
  rw [n1]
  refine lpF_fx (fun i s => s = (cn (fun i => mem σ i && okU (σ (0, i) 1) (σ (28, 0)) (fun a => itm σ a i) 17) i, nI i)) nc ?_ ?_ (by omega) rfl
  · intro i s hi hs
    subst hs
    refine Or.inl ⟨_, ?_, rfl⟩
    obtain ⟨i1, i2⟩ := in12 (show i < 12 by omega)
    obtain ⟨k, k1, k2, k3, k4, k5, k6⟩ := x_club hI (show i < 12 by omega)
    have kk : (fun a => itm σ a i) = σ (11, k) := by funext a; exact k5 a
    have od := ok_dm (σ (0, i) 1) (σ (28, 0)) (σ (11, k))
    have ul := x_unlike (σ := σ) (r0 := (28, 0)) (r1 := (11, k)) (by decide) k6 rfl rfl
    rw [cn_S, kk]
    simp only [leI (show nc < 2 ^ 31 by omega) (show i < 2 ^ 31 by omega), show ¬ nc ≤ i by omega, if_false, i1, grd_t, i2, bnd_eq, nI_1, k4, obi_s, ul, mem]
    by_cases c : σ (0, i) 2 = 0
    · simp [c, obi_s]
    · by_cases d : σ (0, i) 1 &&& dm (σ (28, 0)) (σ (11, k)) 17 = 0
      · simp [c, d, od.1 d, obi_s]
      · have : okU (σ (0, i) 1) (σ (28, 0)) (σ (11, k)) 17 = false := by
          cases h : okU (σ (0, i) 1) (σ (28, 0)) (σ (11, k)) 17 with
          | false => rfl
          | true => exact absurd (od.2 h) d
        simp [c, d, this, obi_s]
  · intro s hs
    subst hs
    exact ⟨_, by simp only [leI (show nc < 2 ^ 31 by omega) (show nc < 2 ^ 31 by omega), Nat.le_refl, if_true], rfl⟩

-- The reference: chosen links, clusters
theorem s_Mo_choose (G : zG) (σ : zSt) (n : Nat) (hn : σ 32 0 = nI n) (hle : n ≤ 12) : zV G 1 M_Mo_choose [zf G 32] σ (fun τ => MF [44] [20] σ τ) := by
  refine zSpec.of (by decide) (Nat.le_of_ble_eq_true rfl) rfl (fun X E => ?_)
  refine b_Mo_choose_0 E σ ?_
  have nt : ∀ τ, MF [44] [20] σ τ → τ 32 0 = nI n := fun τ h => by rw [h.2 0 (by decide)]; exact hn
  refine z_for n (fun i τ => zZ G M_Mo_choose 1 X (fun r τ => r = none ∧ MF [44] [20] σ τ) 2 [(0, zf G 32), (1, .int (nI i))] [] τ) (fun _ τ => MF [44] [20] σ τ) ?_ ?_ 0 σ (Nat.zero_le _) MF.rf
  · intro a τ ha hI iha
    refine b_Mo_choose_2 E (nI a) τ ⟨fun q => absurd q (by rw [nt τ hI]; exact nI_ge ha (by omega)), fun _ => ?_⟩
    rw [nI_1]
    refine z_for n (fun i τ => zZ G M_Mo_choose 1 X (fun r τ => r = none ∧ MF [44] [20] σ τ) 14 [(0, zf G 32), (1, .int (nI a)), (2, .int (nI i))] [] τ) (fun _ τ => MF [44] [20] σ τ) ?_ ?_ (a + 1) τ (by omega) hI
    · intro b τ hb hI ihb
      have ia : vp_in (nI a) 12 := vp_in_nI (by omega) (by decide)
      have ib : vp_in (nI b) 12 := vp_in_nI (by omega) (by decide)
      have iab : vp_in (((12 : Int32) * nI a) + nI b) 144 := by rw [zi12']; exact vp_in_nI (by omega) (by decide)
      have iba : vp_in (((12 : Int32) * nI b) + nI a) 144 := by rw [zi12']; exact vp_in_nI (by omega) (by decide)
      have fin : ∀ (v v2 w : Int32) (σ1 σ2 σ3 : zSt), σ1 = zup τ 44 (((12 : Int32) * nI a) + nI b).toNatClampNeg v → σ2 = zup σ1 44 (((12 : Int32) * nI b) + nI a).toNatClampNeg v2 → σ3 = zup σ2 32 20 w → zZ G M_Mo_choose 1 X (fun r τ => r = none ∧ MF [44] [20] σ τ) 14 [(0, zf G 32), (1, .int (nI a)), (2, .int (nI b + 1))] [] σ3 := by
        intro v v2 w σ1 σ2 σ3 e1 e2 e3
        rw [nI_1]
        refine ihb σ3 ?_
        rw [e3, e2, e1]
        exact ((hI.up (by decide) (by decide)).up (by decide) (by decide)).fld (by decide)
      -- the loops that ask whether the link is the first
      have ask : ∀ (k : Nat) (f : Int32), k ≤ n → zZ G M_Mo_choose 1 X (fun r τ => r = none ∧ MF [44] [20] σ τ) 55 [(0, zf G 32), (1, .int (nI a)), (2, .int (nI b)), (3, .int f), (4, .int (nI k))] [] τ := by
        intro k f hk
        refine z_for n (fun i (f : Int32) => zZ G M_Mo_choose 1 X (fun r τ => r = none ∧ MF [44] [20] σ τ) 55 [(0, zf G 32), (1, .int (nI a)), (2, .int (nI b)), (3, .int f), (4, .int (nI i))] [] τ) (fun _ _ => True) ?_ ?_ k f hk trivial
        · intro c f hc _ ihc
          refine b_Mo_choose_55 E (nI a) (nI b) f (nI c) τ ⟨fun q => absurd q (by rw [nt τ hI]; exact nI_ge hc (by omega)), fun _ => ⟨fun _ => ⟨iab, fun σ1 e1 => ⟨iba, fun σ2 e2 => ⟨fun _ σ3 e3 => fin _ _ _ σ1 σ2 σ3 e1 e2 e3, fun _ σ3 e3 => fin _ _ _ σ1 σ2 σ3 e1 e2 e3⟩⟩⟩, fun _ => ?_⟩⟩
          rw [nI_1]
          have ic : vp_in (nI c) 12 := vp_in_nI (by omega) (by decide)
          refine z_for n (fun i (f : Int32) => zZ G M_Mo_choose 1 X (fun r τ => r = none ∧ MF [44] [20] σ τ) 74 [(0, zf G 32), (1, .int (nI a)), (2, .int (nI b)), (3, .int f), (4, .int (nI c)), (5, .int (nI i))] [] τ) (fun _ _ => True) ?_ ?_ (c + 1) f (by omega) trivial
          · intro d f hd _ ihd
            have id : vp_in (nI d) 12 := vp_in_nI (by omega) (by decide)
            have nx : ∀ g : Int32, zZ G M_Mo_choose 1 X (fun r τ => r = none ∧ MF [44] [20] σ τ) 74 [(0, zf G 32), (1, .int (nI a)), (2, .int (nI b)), (3, .int g), (4, .int (nI c)), (5, .int (nI d + 1))] [] τ := fun g => by rw [nI_1]; exact ihd g trivial
            have tail : ∀ g : Int32, zZ G M_Mo_choose 1 X (fun r τ => r = none ∧ MF [44] [20] σ τ) 154 [(0, zf G 32), (1, .int (nI a)), (2, .int (nI b)), (3, .int f), (4, .int (nI c)), (5, .int (nI d)), (6, .int g)] [] τ := fun g => b_Mo_choose_154 E (nI a) (nI b) f (nI c) (nI d) g τ ⟨fun _ => nx _, fun _ => ⟨by rw [zi12']; exact vp_in_nI (by omega) (by decide), fun _ => nx _, fun _ => ⟨fun _ => nx _, fun _ => ⟨fun _ => nx _, fun _ => ⟨fun _ => nx _, fun _ => ⟨fun _ => nx _, fun _ => nx _⟩⟩⟩⟩⟩⟩
            exact b_Mo_choose_74 E (nI a) (nI b) f (nI c) (nI d) τ ⟨fun q => absurd q (by rw [nt τ hI]; exact nI_ge hd (by omega)), fun _ => ⟨ic, ia, fun _ => ⟨ic, ib, fun _ => tail _, fun _ => ⟨id, ia, fun _ => tail _, fun _ => tail _⟩⟩, fun _ => ⟨id, ib, fun _ => tail _, fun _ => ⟨ic, ib, fun _ => tail _, fun _ => ⟨id, ia, fun _ => tail _, fun _ => tail _⟩⟩⟩⟩⟩
          · intro f _
            exact b_Mo_choose_74 E (nI a) (nI b) f (nI c) (nI n) τ ⟨fun _ => by rw [nI_1]; exact ihc f trivial, fun q => absurd (by rw [nt τ hI]; exact nI_le (Nat.le_refl n) (by omega)) q⟩
        · intro f _
          exact b_Mo_choose_55 E (nI a) (nI b) f (nI n) τ ⟨fun _ => ⟨iab, fun σ1 e1 => ⟨iba, fun σ2 e2 => ⟨fun _ σ3 e3 => fin _ _ _ σ1 σ2 σ3 e1 e2 e3, fun _ σ3 e3 => fin _ _ _ σ1 σ2 σ3 e1 e2 e3⟩⟩⟩, fun q => absurd (by rw [nt τ hI]; exact nI_le (Nat.le_refl n) (by omega)) q⟩
      exact b_Mo_choose_14 E (nI a) (nI b) τ ⟨fun q => absurd q (by rw [nt τ hI]; exact nI_ge hb (by omega)), fun _ => ⟨iab, fun _ => ask 0 _ (Nat.zero_le _), fun _ => ⟨ia, ib, fun _ => ask 0 _ (Nat.zero_le _), fun _ => ask 0 _ (Nat.zero_le _)⟩⟩⟩
    · intro τ hI
      exact b_Mo_choose_14 E (nI a) (nI n) τ ⟨fun _ => by rw [nI_1]; exact iha τ hI, fun q => absurd (by rw [nt τ hI]; exact nI_le (Nat.le_refl n) (by omega)) q⟩
  · intro τ hI
    exact b_Mo_choose_2 E (nI n) τ ⟨fun _ => ⟨rfl, hI⟩, fun q => absurd (by rw [nt τ hI]; exact nI_le (Nat.le_refl n) (by omega)) q⟩
-- sets of nodes: no bit from n on
def SB (s : Int32) (n : Nat) : Prop := ∀ c, n ≤ c → c < 32 → bt s c = false
theorem SB.and {s t : Int32} {n : Nat} (h : SB s n) : SB (s &&& t) n := fun c h1 h2 => by rw [b_and, h c h1 h2, Bool.false_and]
theorem SB.ex {s : Int32} {n : Nat} (h : SB s n) (h0 : ¬ s = 0) (hn : n ≤ 32) : ∃ c, c < n ∧ zIn s (nI c) = true := by
  apply Classical.byContradiction
  intro hno
  apply h0
  apply b_ext
  intro i hi
  rw [b_0]
  rcases Nat.lt_or_ge i n with h1 | h1
  · cases hb : bt s i with
    | false => rfl
    | true => exact absurd ⟨i, h1, by rw [zIn_bt _ hi]; exact hb⟩ hno
  · exact h i h1 hi
theorem SB_all : ∀ n, n < 13 → SB (zAll (nI n)) n := by
  have key : ∀ n, n < 13 → ∀ c, c < 32 → n ≤ c → bt (zAll (nI n)) c = false := by decide +kernel
  exact fun n hn c h1 h2 => key n hn c h2 h1
-- how many of the first n bits are set
def co (s : Int32) (n : Nat) : Nat := n - cz s n
theorem cz_n (s : Int32) (n : Nat) : cz s n ≤ n := by
  induction n with
  | zero => exact Nat.le_refl _
  | succ k ih => unfold cz; split <;> omega
theorem co_lt {s t : Int32} {n b : Nat} (hn : n ≤ 32) (hb : b < n) (h : ∀ c, c < n → zIn t (nI c) = true → zIn s (nI c) = true) (hs : zIn s (nI b) = true) (ht : zIn t (nI b) = false) : co t n < co s n := by
  have h1 := cz_lt (s := t) (t := s) hn hb h ht hs
  have h2 := cz_n t n
  unfold co
  omega
theorem s_Mo_makeClusters (G : zG) (σ : zSt) (n : Nat) (k : Int32) (hn : σ 32 0 = nI n) (h1n : 1 ≤ n) (hle : n ≤ 12) (hU : UO σ n) : zV G 2 M_Mo_makeClusters [zf G 32, .int k] σ (fun τ => MF [41, 42, 43, 44] [19, 20] σ τ ∧ UO τ n) := by
  refine zSpec.of (by decide) (Nat.le_of_ble_eq_true rfl) rfl (fun X E => ?_)
  refine b_Mo_makeClusters_0 E k σ (fun σ0 e0 => ?_)
  have nt : ∀ τ, MF [41, 42, 43, 44] [19, 20] σ τ → τ 32 0 = nI n := fun τ h => by rw [h.2 0 (by decide)]; exact hn
  -- while (free != 0)
  have main : ∀ (m : Nat) (fr : Int32) (τ : zSt), co fr n = m → SB fr n → MF [41, 42, 43, 44] [19, 20] σ τ → UO τ n → zZ G M_Mo_makeClusters 2 X (fun r τ => r = none ∧ MF [41, 42, 43, 44] [19, 20] σ τ ∧ UO τ n) 14 [(0, zf G 32), (1, .int k), (2, .int fr)] [] τ := by
    intro m
    induction m using Nat.strongRecOn with
    | ind m IH =>
      intro fr τ hm hB hF hUτ
      refine b_Mo_makeClusters_14 E k fr τ ⟨fun _ => ⟨_, s_Mo_choose G τ n (nt τ hF) hle, fun τ1 g1 => ⟨rfl, hF.tr (g1.mono (by decide) (by decide)), fun a ha => ?_⟩⟩, fun hne => ?_⟩
      · rw [g1.at (by decide)]; exact hUτ a ha
      obtain ⟨b, hb, hzb⟩ := hB.ex hne (by omega)
      -- a cluster is grown: the inner while
      have grow : ∀ (m2 : Nat) (fr2 set near : Int32) (rt : Nat) (υ : zSt), co fr2 n = m2 → co fr2 n < m → SB fr2 n → (∃ y, near = y &&& fr2) → rt < 12 → MF [41, 42, 43, 44] [19, 20] σ υ → UO υ n →
          zZ G M_Mo_makeClusters 2 X (fun r τ => r = none ∧ MF [41, 42, 43, 44] [19, 20] σ τ ∧ UO τ n) 55 [(0, zf G 32), (1, .int k), (2, .int fr2), (3, .int (nI rt)), (4, .int set), (5, .int near)] [] υ := by
        intro m2
        induction m2 using Nat.strongRecOn with
        | ind m2 IH2 =>
          intro fr2 set near rt υ hm2 hlt hB2 hnear hrt hFυ hUυ
          have fin : ∀ (σ1 σ2 : zSt) (w : Int32), zFr [41, 42, 43] υ σ1 ∧ UO σ1 n → σ2 = zup σ1 32 19 w → zZ G M_Mo_makeClusters 2 X (fun r τ => r = none ∧ MF [41, 42, 43, 44] [19, 20] σ τ ∧ UO τ n) 14 [(0, zf G 32), (1, .int k), (2, .int fr2)] [] σ2 := by
            intro σ1 σ2 w ⟨g1, g2⟩ e2
            refine IH (co fr2 n) hlt fr2 σ2 rfl hB2 ?_ (fun a ha => ?_)
            · rw [e2]
              exact (hFυ.tr ((MF.of (J := [19, 20]) g1 (by decide)).mono (by decide) (by decide))).fld (by decide)
            · rw [e2, zup_ne (by decide)]; exact g2 a ha
          refine b_Mo_makeClusters_55 E k fr2 (nI rt) set near υ ⟨fun _ => ⟨_, s_Mo_tree G υ n (nI rt) set (nt υ hFυ) hle hUυ, fun σ1 g σ2 e2 => fin σ1 σ2 _ g e2⟩, fun hne2 => ⟨_, s_Mo_bits G υ n near (nt υ hFυ) hle, ?_⟩⟩
          rintro x4 υ rfl
          refine ⟨_, s_Mo_bits G _ n set (nt _ hFυ) hle, ?_⟩
          rintro x6 υ rfl
          refine ⟨fun _ => ⟨_, s_Mo_tree G _ n (nI rt) set (nt _ hFυ) hle hUυ, fun σ1 g σ2 e2 => fin σ1 σ2 _ g e2⟩, fun _ => ⟨_, s_Mo_around G _ n _ _ (nt _ hFυ) hle, ?_⟩⟩
          rintro x10 υ ⟨hx, rfl⟩
          obtain ⟨y, rfl⟩ := hnear
          have hBn : SB (y &&& fr2) n := fun c h1 h2 => by rw [b_and, hB2 c h1 h2, Bool.and_false]
          obtain ⟨c0, hc0, hz0⟩ := hBn.ex hne2 (by omega)
          have hz1 : zIn fr2 (nI c0) = true := by
            rw [zIn_and _ _ (by omega)] at hz0
            revert hz0; cases zIn fr2 (nI c0) <;> simp
          have hdec : co (fr2 &&& ((y &&& fr2) ^^^ (-1 : Int32))) n < co fr2 n := by
            refine co_lt (b := c0) (by omega) hc0 (fun c hc h => ?_) hz1 ?_
            · rw [zIn_and _ _ (by omega)] at h
              revert h; cases zIn fr2 (nI c) <;> simp
            · rw [zIn_and _ _ (by omega), zIn_not _ (by omega), hz0]; simp
          exact IH2 _ (by omega) _ _ x10 rt _ rfl (by omega) hB2.and hx hrt hFυ hUυ
      -- the root: the least free node
      have root : ∀ (i : Nat), i ≤ b → zZ G M_Mo_makeClusters 2 X (fun r τ => r = none ∧ MF [41, 42, 43, 44] [19, 20] σ τ ∧ UO τ n) 20 [(0, zf G 32), (1, .int k), (2, .int fr), (3, .int (nI i))] [] τ := by
        intro i hi
        have found : ∀ i, i < n → zIn fr (nI i) = true → (∃ P : Int32 → zSt → Prop, zI G 1 M_Mo_around [zf G 32, .int ((1 : Int32) <<< (nI i &&& 31)), .int (fr &&& (((1 : Int32) <<< (nI i &&& 31)) ^^^ (-1 : Int32)))] τ P ∧ ∀ (x2 : Int32) (σ1 : zSt), P x2 σ1 → zZ G M_Mo_makeClusters 2 X (fun r τ => r = none ∧ MF [41, 42, 43, 44] [19, 20] σ τ ∧ UO τ n) 55 [(0, zf G 32), (1, .int k), (2, .int (fr &&& (((1 : Int32) <<< (nI i &&& 31)) ^^^ (-1 : Int32)))), (3, .int (nI i)), (4, .int ((1 : Int32) <<< (nI i &&& 31))), (5, .int x2)] [] σ1) := by
          intro i hi hz
          refine ⟨_, s_Mo_around G τ n _ _ (nt τ hF) hle, ?_⟩
          rintro x τ' ⟨hx, rfl⟩
          have hdec : co (fr &&& (((1 : Int32) <<< (nI i &&& 31)) ^^^ (-1 : Int32))) n < co fr n := by
            refine co_lt (b := i) (by omega) hi (fun c hc h => ?_) hz ?_
            · rw [zIn_and _ _ (by omega)] at h
              revert h; cases zIn fr (nI c) <;> simp
            · rw [zIn_and _ _ (by omega), zIn_not _ (by omega), zIn_bit (by omega) (by omega)]; simp
          exact grow _ _ _ x i _ rfl (by omega) hB.and hx (by omega) hF hUτ
        refine z_for b (fun i (_ : Unit) => zZ G M_Mo_makeClusters 2 X (fun r τ => r = none ∧ MF [41, 42, 43, 44] [19, 20] σ τ ∧ UO τ n) 20 [(0, zf G 32), (1, .int k), (2, .int fr), (3, .int (nI i))] [] τ) (fun _ _ => True) ?_ ?_ i () hi trivial
        · intro i _ hib _ ih
          refine b_Mo_makeClusters_20 E k fr (nI i) τ ⟨fun hz => found i (by omega) ?_, fun _ => by rw [nI_1]; exact ih () trivial⟩
          simp [zIn, hz]
        · intro _ _
          refine b_Mo_makeClusters_20 E k fr (nI b) τ ⟨fun _ => found b hb hzb, fun hz => ?_⟩
          rw [zIn_f hz] at hzb
          cases hzb
      exact root 0 (Nat.zero_le _)
  have hF0 : MF [41, 42, 43, 44] [19, 20] σ σ0 := by rw [e0]; exact MF.rf.fld (by decide)
  have hB0 : SB (((1 : Int32) <<< ((σ 32 0) &&& 31)) - (1 : Int32)) n := by
    rw [hn]; exact SB_all n (by omega)
  exact main _ _ σ0 rfl hB0 hF0 (fun a ha => by rw [e0, zup_ne (by decide)]; exact hU a ha)

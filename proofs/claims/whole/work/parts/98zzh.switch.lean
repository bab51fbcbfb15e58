/-! ===== The switch ===== -/
def lwT : List Nat := [2, 3, 4, 5, 6, 9, 10, 11, 14, 17, 20, 23, 26, 29, 32, 35, 36, 39, 40, 43, 46, 49, 52, 55, 58, 61, 64, 67, 70, 73, 76, 79, 82, 83, 86, 87, 90, 93, 96, 99, 102, 105, 108, 111, 114, 118, 122, 125, 126, 129, 130, 133, 136]
section DISP
variable {G : qG} {y : Nat → Option qSh} {μ : qMu} {X M k n s : Nat} {x : Int32}
def Nj (G : qG) (X M k : Nat) (x : Int32) (y : Nat → Option qSh) (μ : qMu) (n s : Nat) (b : Nat) : Prop := ∃ y1 μ1 n1 s1, qR PG G (qJump PG 318 b (lwL G X M x) [] (MK y μ n s)) = qR PG G (318, K318_139, lwL G X M x, [], MK y1 μ1 n1 s1) ∧ Wd G X M (k + 1) y1 μ1 n1 ∧ y1 G.1 = none ∧ n1 ≤ n + 42 ∧ s1 ≤ s + 442
theorem lw_all (hW : Wd G X M k y μ n) (hk : k < 900) (hG : y G.1 = none) (hGX : G.1 < X) (h1 : ixok (x + 1) G.2.1) (h2 : ixok (x + 2) G.2.1) (h3 : ixok (x + 3) G.2.1) (h4 : ixok (x + 4) G.2.1) (h5 : ixok (x + 5) G.2.1) : ∀ b ∈ lwT, Nj G X M k x y μ n s b := by
  unfold lwT
  refine List.forall_mem_cons.mpr ⟨w_2 hW hk hG hGX h1 h2 h3 h4 h5, ?_⟩
  refine List.forall_mem_cons.mpr ⟨w_3 hW hk hG hGX h1 h2 h3 h4 h5, ?_⟩
  refine List.forall_mem_cons.mpr ⟨w_4 hW hk hG hGX h1 h2 h3 h4 h5, ?_⟩
  refine List.forall_mem_cons.mpr ⟨w_5 hW hk hG hGX h1 h2 h3 h4 h5, ?_⟩
  refine List.forall_mem_cons.mpr ⟨w_6 hW hk hG hGX h1 h2 h3 h4 h5, ?_⟩
  refine List.forall_mem_cons.mpr ⟨w_9 hW hk hG hGX h1 h2 h3 h4 h5, ?_⟩
  refine List.forall_mem_cons.mpr ⟨w_10 hW hk hG hGX h1 h2 h3 h4 h5, ?_⟩
  refine List.forall_mem_cons.mpr ⟨w_11 hW hk hG hGX h1 h2 h3 h4 h5, ?_⟩
  refine List.forall_mem_cons.mpr ⟨w_14 hW hk hG hGX h1 h2 h3 h4 h5, ?_⟩
  refine List.forall_mem_cons.mpr ⟨w_17 hW hk hG hGX h1 h2 h3 h4 h5, ?_⟩
  refine List.forall_mem_cons.mpr ⟨w_20 hW hk hG hGX h1 h2 h3 h4 h5, ?_⟩
  refine List.forall_mem_cons.mpr ⟨w_23 hW hk hG hGX h1 h2 h3 h4 h5, ?_⟩
  refine List.forall_mem_cons.mpr ⟨w_26 hW hk hG hGX h1 h2 h3 h4 h5, ?_⟩
  refine List.forall_mem_cons.mpr ⟨w_29 hW hk hG hGX h1 h2 h3 h4 h5, ?_⟩
  refine List.forall_mem_cons.mpr ⟨w_32 hW hk hG hGX h1 h2 h3 h4 h5, ?_⟩
  refine List.forall_mem_cons.mpr ⟨w_35 hW hk hG hGX h1 h2 h3 h4 h5, ?_⟩
  refine List.forall_mem_cons.mpr ⟨w_36 hW hk hG hGX h1 h2 h3 h4 h5, ?_⟩
  refine List.forall_mem_cons.mpr ⟨w_39 hW hk hG hGX h1 h2 h3 h4 h5, ?_⟩
  refine List.forall_mem_cons.mpr ⟨w_40 hW hk hG hGX h1 h2 h3 h4 h5, ?_⟩
  refine List.forall_mem_cons.mpr ⟨w_43 hW hk hG hGX h1 h2 h3 h4 h5, ?_⟩
  refine List.forall_mem_cons.mpr ⟨w_46 hW hk hG hGX h1 h2 h3 h4 h5, ?_⟩
  refine List.forall_mem_cons.mpr ⟨w_49 hW hk hG hGX h1 h2 h3 h4 h5, ?_⟩
  refine List.forall_mem_cons.mpr ⟨w_52 hW hk hG hGX h1 h2 h3 h4 h5, ?_⟩
  refine List.forall_mem_cons.mpr ⟨w_55 hW hk hG hGX h1 h2 h3 h4 h5, ?_⟩
  refine List.forall_mem_cons.mpr ⟨w_58 hW hk hG hGX h1 h2 h3 h4 h5, ?_⟩
  refine List.forall_mem_cons.mpr ⟨w_61 hW hk hG hGX h1 h2 h3 h4 h5, ?_⟩
  refine List.forall_mem_cons.mpr ⟨w_64 hW hk hG hGX h1 h2 h3 h4 h5, ?_⟩
  refine List.forall_mem_cons.mpr ⟨w_67 hW hk hG hGX h1 h2 h3 h4 h5, ?_⟩
  refine List.forall_mem_cons.mpr ⟨w_70 hW hk hG hGX h1 h2 h3 h4 h5, ?_⟩
  refine List.forall_mem_cons.mpr ⟨w_73 hW hk hG hGX h1 h2 h3 h4 h5, ?_⟩
  refine List.forall_mem_cons.mpr ⟨w_76 hW hk hG hGX h1 h2 h3 h4 h5, ?_⟩
  refine List.forall_mem_cons.mpr ⟨w_79 hW hk hG hGX h1 h2 h3 h4 h5, ?_⟩
  refine List.forall_mem_cons.mpr ⟨w_82 hW hk hG hGX h1 h2 h3 h4 h5, ?_⟩
  refine List.forall_mem_cons.mpr ⟨w_83 hW hk hG hGX h1 h2 h3 h4 h5, ?_⟩
  refine List.forall_mem_cons.mpr ⟨w_86 hW hk hG hGX h1 h2 h3 h4 h5, ?_⟩
  refine List.forall_mem_cons.mpr ⟨w_87 hW hk hG hGX h1 h2 h3 h4 h5, ?_⟩
  refine List.forall_mem_cons.mpr ⟨w_90 hW hk hG hGX h1 h2 h3 h4 h5, ?_⟩
  refine List.forall_mem_cons.mpr ⟨w_93 hW hk hG hGX h1 h2 h3 h4 h5, ?_⟩
  refine List.forall_mem_cons.mpr ⟨w_96 hW hk hG hGX h1 h2 h3 h4 h5, ?_⟩
  refine List.forall_mem_cons.mpr ⟨w_99 hW hk hG hGX h1 h2 h3 h4 h5, ?_⟩
  refine List.forall_mem_cons.mpr ⟨w_102 hW hk hG hGX h1 h2 h3 h4 h5, ?_⟩
  refine List.forall_mem_cons.mpr ⟨w_105 hW hk hG hGX h1 h2 h3 h4 h5, ?_⟩
  refine List.forall_mem_cons.mpr ⟨w_108 hW hk hG hGX h1 h2 h3 h4 h5, ?_⟩
  refine List.forall_mem_cons.mpr ⟨w_111 hW hk hG hGX h1 h2 h3 h4 h5, ?_⟩
  refine List.forall_mem_cons.mpr ⟨w_114 hW hk hG hGX h1 h2 h3 h4 h5, ?_⟩
  refine List.forall_mem_cons.mpr ⟨w_118 hW hk hG hGX h1 h2 h3 h4 h5, ?_⟩
  refine List.forall_mem_cons.mpr ⟨w_122 hW hk hG hGX h1 h2 h3 h4 h5, ?_⟩
  refine List.forall_mem_cons.mpr ⟨w_125 hW hk hG hGX h1 h2 h3 h4 h5, ?_⟩
  refine List.forall_mem_cons.mpr ⟨w_126 hW hk hG hGX h1 h2 h3 h4 h5, ?_⟩
  refine List.forall_mem_cons.mpr ⟨w_129 hW hk hG hGX h1 h2 h3 h4 h5, ?_⟩
  refine List.forall_mem_cons.mpr ⟨w_130 hW hk hG hGX h1 h2 h3 h4 h5, ?_⟩
  refine List.forall_mem_cons.mpr ⟨w_133 hW hk hG hGX h1 h2 h3 h4 h5, ?_⟩
  refine List.forall_mem_cons.mpr ⟨w_136 hW hk hG hGX h1 h2 h3 h4 h5, ?_⟩
  exact fun b hb => absurd hb List.not_mem_nil
theorem lw_getD {P : Nat → Prop} (d : Nat) (h0 : P d) : ∀ (l : List Nat), (∀ b ∈ l, P b) → ∀ t, P (l.getD t d)
  | [], _, t => by simpa using h0
  | a :: l, h, 0 => by simpa using h a List.mem_cons_self
  | a :: l, h, t + 1 => by
    have := lw_getD d h0 l (fun b hb => h b (List.mem_cons_of_mem _ hb)) t
    simpa using this
theorem lw_tab {z : Int32} (hW : Wd G X M k y μ n) (hk : k < 900) (hG : y G.1 = none) (hGX : G.1 < X) (h1 : ixok (x + 1) G.2.1) (h2 : ixok (x + 2) G.2.1) (h3 : ixok (x + 3) G.2.1) (h4 : ixok (x + 4) G.2.1) (h5 : ixok (x + 5) G.2.1) : ∃ b, qTab (139 :: lwT) z = some b ∧ Nj G X M k x y μ n s b := by
  have h0 : Nj G X M k x y μ n s 139 := w_139 hW hk hG
  unfold qTab
  dsimp only
  split
  · exact ⟨139, rfl, h0⟩
  · exact ⟨_, rfl, lw_getD 139 h0 lwT (lw_all hW hk hG hGX h1 h2 h3 h4 h5) _⟩
end DISP

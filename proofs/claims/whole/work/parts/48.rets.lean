/-! ===== Returns by name; exceptions that go through ===== -/
section RETS
variable {G : qG} {pc len : Nat} {lk : List Nat} {cv : Value} {es : List qEnt} {L : qLV} {h : qHp} {rest : List Value} {E : Nat}
theorem r1 {v : Int32} : qR PG G (1, (pc, len, .ireturn, lk, cv) :: es, L, [.int v], h) = some (.inl (some (.int v)), h) := s_ireturn (fun q => absurd (show (0 : Nat) = 1 from q) (by decide))
theorem r3 {v : Int32} : qR PG G (3, (pc, len, .ireturn, lk, cv) :: es, L, [.int v], h) = some (.inl (some (.int v)), h) := s_ireturn (fun q => absurd (show (0 : Nat) = 1 from q) (by decide))
theorem r4 {v : Int32} : qR PG G (4, (pc, len, .ireturn, lk, cv) :: es, L, [.int v], h) = some (.inl (some (.int v)), h) := s_ireturn (fun q => absurd (show (0 : Nat) = 1 from q) (by decide))
theorem r5 {v : Int32} : qR PG G (5, (pc, len, .ireturn, lk, cv) :: es, L, [.int v], h) = some (.inl (some (.int v)), h) := s_ireturn (fun q => absurd (show (0 : Nat) = 1 from q) (by decide))
theorem r6 {v : Int32} : qR PG G (6, (pc, len, .ireturn, lk, cv) :: es, L, [.int v], h) = some (.inl (some (.int v)), h) := s_ireturn (fun q => absurd (show (0 : Nat) = 1 from q) (by decide))
theorem x7 : qCall PG G 7 pc es L rest (some (.inr E, h)) = some (.inr E, h) := cl_e rfl
theorem x8 : qCall PG G 8 pc es L rest (some (.inr E, h)) = some (.inr E, h) := cl_e rfl
theorem x9 : qCall PG G 9 pc es L rest (some (.inr E, h)) = some (.inr E, h) := cl_e rfl
theorem x10 : qCall PG G 10 pc es L rest (some (.inr E, h)) = some (.inr E, h) := cl_e rfl
theorem x11 : qCall PG G 11 pc es L rest (some (.inr E, h)) = some (.inr E, h) := cl_e rfl
theorem x12 : qCall PG G 12 pc es L rest (some (.inr E, h)) = some (.inr E, h) := cl_e rfl
theorem x13 : qCall PG G 13 pc es L rest (some (.inr E, h)) = some (.inr E, h) := cl_e rfl
theorem x14 : qCall PG G 14 pc es L rest (some (.inr E, h)) = some (.inr E, h) := cl_e rfl
theorem x15 : qCall PG G 15 pc es L rest (some (.inr E, h)) = some (.inr E, h) := cl_e rfl
theorem x16 : qCall PG G 16 pc es L rest (some (.inr E, h)) = some (.inr E, h) := cl_e rfl
theorem r17 {v : Int32} : qR PG G (17, (pc, len, .ireturn, lk, cv) :: es, L, [.int v], h) = some (.inl (some (.int v)), h) := s_ireturn (fun q => absurd (show (0 : Nat) = 1 from q) (by decide))
theorem x17 : qCall PG G 17 pc es L rest (some (.inr E, h)) = some (.inr E, h) := cl_e rfl
theorem r18 {v : Int32} : qR PG G (18, (pc, len, .ireturn, lk, cv) :: es, L, [.int v], h) = some (.inl (some (.int v)), h) := s_ireturn (fun q => absurd (show (0 : Nat) = 1 from q) (by decide))
theorem x18 : qCall PG G 18 pc es L rest (some (.inr E, h)) = some (.inr E, h) := cl_e rfl
theorem r19 {v : Int32} : qR PG G (19, (pc, len, .ireturn, lk, cv) :: es, L, [.int v], h) = some (.inl (some (.int v)), h) := s_ireturn (fun q => absurd (show (0 : Nat) = 1 from q) (by decide))
theorem x19 : qCall PG G 19 pc es L rest (some (.inr E, h)) = some (.inr E, h) := cl_e rfl
theorem x20 : qCall PG G 20 pc es L rest (some (.inr E, h)) = some (.inr E, h) := cl_e rfl
theorem x21 : qCall PG G 21 pc es L rest (some (.inr E, h)) = some (.inr E, h) := cl_e rfl
theorem x22 : qCall PG G 22 pc es L rest (some (.inr E, h)) = some (.inr E, h) := cl_e rfl
theorem x23 : qCall PG G 23 pc es L rest (some (.inr E, h)) = some (.inr E, h) := cl_e rfl
theorem r24 {v : Int32} : qR PG G (24, (pc, len, .ireturn, lk, cv) :: es, L, [.int v], h) = some (.inl (some (.int v)), h) := s_ireturn (fun q => absurd (show (0 : Nat) = 1 from q) (by decide))
theorem x24 : qCall PG G 24 pc es L rest (some (.inr E, h)) = some (.inr E, h) := cl_e rfl
theorem x25 : qCall PG G 25 pc es L rest (some (.inr E, h)) = some (.inr E, h) := cl_e rfl
theorem r26_0 : qR PG G (26, (pc, len, .ireturn, lk, cv) :: es, L, [.int 0], h) = some (.inl (some (.int 0)), h) := s_ireturn (fun _ => Or.inl rfl)
theorem r26_1 : qR PG G (26, (pc, len, .ireturn, lk, cv) :: es, L, [.int 1], h) = some (.inl (some (.int 1)), h) := s_ireturn (fun _ => Or.inr rfl)
theorem x26 : qCall PG G 26 pc es L rest (some (.inr E, h)) = some (.inr E, h) := cl_e rfl
theorem x27 : qCall PG G 27 pc es L rest (some (.inr E, h)) = some (.inr E, h) := cl_e rfl
theorem x28 : qCall PG G 28 pc es L rest (some (.inr E, h)) = some (.inr E, h) := cl_e rfl
theorem x29 : qCall PG G 29 pc es L rest (some (.inr E, h)) = some (.inr E, h) := cl_e rfl
theorem r30 {v : Int32} : qR PG G (30, (pc, len, .ireturn, lk, cv) :: es, L, [.int v], h) = some (.inl (some (.int v)), h) := s_ireturn (fun q => absurd (show (0 : Nat) = 1 from q) (by decide))
theorem x30 : qCall PG G 30 pc es L rest (some (.inr E, h)) = some (.inr E, h) := cl_e rfl
theorem x31 : qCall PG G 31 pc es L rest (some (.inr E, h)) = some (.inr E, h) := cl_e rfl
theorem x32 : qCall PG G 32 pc es L rest (some (.inr E, h)) = some (.inr E, h) := cl_e rfl
theorem r33 {v : Int32} : qR PG G (33, (pc, len, .ireturn, lk, cv) :: es, L, [.int v], h) = some (.inl (some (.int v)), h) := s_ireturn (fun q => absurd (show (0 : Nat) = 1 from q) (by decide))
theorem x33 : qCall PG G 33 pc es L rest (some (.inr E, h)) = some (.inr E, h) := cl_e rfl
theorem x34 : qCall PG G 34 pc es L rest (some (.inr E, h)) = some (.inr E, h) := cl_e rfl
theorem x35 : qCall PG G 35 pc es L rest (some (.inr E, h)) = some (.inr E, h) := cl_e rfl
theorem x36 : qCall PG G 36 pc es L rest (some (.inr E, h)) = some (.inr E, h) := cl_e rfl
theorem x37 : qCall PG G 37 pc es L rest (some (.inr E, h)) = some (.inr E, h) := cl_e rfl
theorem x38 : qCall PG G 38 pc es L rest (some (.inr E, h)) = some (.inr E, h) := cl_e rfl
theorem x39 : qCall PG G 39 pc es L rest (some (.inr E, h)) = some (.inr E, h) := cl_e rfl
theorem x40 : qCall PG G 40 pc es L rest (some (.inr E, h)) = some (.inr E, h) := cl_e rfl
theorem x41 : qCall PG G 41 pc es L rest (some (.inr E, h)) = some (.inr E, h) := cl_e rfl
theorem x42 : qCall PG G 42 pc es L rest (some (.inr E, h)) = some (.inr E, h) := cl_e rfl
theorem x43 : qCall PG G 43 pc es L rest (some (.inr E, h)) = some (.inr E, h) := cl_e rfl
theorem x44 : qCall PG G 44 pc es L rest (some (.inr E, h)) = some (.inr E, h) := cl_e rfl
theorem r45_0 : qR PG G (45, (pc, len, .ireturn, lk, cv) :: es, L, [.int 0], h) = some (.inl (some (.int 0)), h) := s_ireturn (fun _ => Or.inl rfl)
theorem r45_1 : qR PG G (45, (pc, len, .ireturn, lk, cv) :: es, L, [.int 1], h) = some (.inl (some (.int 1)), h) := s_ireturn (fun _ => Or.inr rfl)
theorem x45 : qCall PG G 45 pc es L rest (some (.inr E, h)) = some (.inr E, h) := cl_e rfl
theorem x46 : qCall PG G 46 pc es L rest (some (.inr E, h)) = some (.inr E, h) := cl_e rfl
theorem x47 : qCall PG G 47 pc es L rest (some (.inr E, h)) = some (.inr E, h) := cl_e rfl
theorem x48 : qCall PG G 48 pc es L rest (some (.inr E, h)) = some (.inr E, h) := cl_e rfl
theorem x49 : qCall PG G 49 pc es L rest (some (.inr E, h)) = some (.inr E, h) := cl_e rfl
theorem x50 : qCall PG G 50 pc es L rest (some (.inr E, h)) = some (.inr E, h) := cl_e rfl
theorem x51 : qCall PG G 51 pc es L rest (some (.inr E, h)) = some (.inr E, h) := cl_e rfl
theorem r52 {v : Int32} : qR PG G (52, (pc, len, .ireturn, lk, cv) :: es, L, [.int v], h) = some (.inl (some (.int v)), h) := s_ireturn (fun q => absurd (show (0 : Nat) = 1 from q) (by decide))
theorem x52 : qCall PG G 52 pc es L rest (some (.inr E, h)) = some (.inr E, h) := cl_e rfl
theorem r53 {v : Int32} : qR PG G (53, (pc, len, .ireturn, lk, cv) :: es, L, [.int v], h) = some (.inl (some (.int v)), h) := s_ireturn (fun q => absurd (show (0 : Nat) = 1 from q) (by decide))
theorem x53 : qCall PG G 53 pc es L rest (some (.inr E, h)) = some (.inr E, h) := cl_e rfl
theorem r54 {v : Int32} : qR PG G (54, (pc, len, .ireturn, lk, cv) :: es, L, [.int v], h) = some (.inl (some (.int v)), h) := s_ireturn (fun q => absurd (show (0 : Nat) = 1 from q) (by decide))
theorem x54 : qCall PG G 54 pc es L rest (some (.inr E, h)) = some (.inr E, h) := cl_e rfl
theorem x55 : qCall PG G 55 pc es L rest (some (.inr E, h)) = some (.inr E, h) := cl_e rfl
theorem r56_0 : qR PG G (56, (pc, len, .ireturn, lk, cv) :: es, L, [.int 0], h) = some (.inl (some (.int 0)), h) := s_ireturn (fun _ => Or.inl rfl)
theorem r56_1 : qR PG G (56, (pc, len, .ireturn, lk, cv) :: es, L, [.int 1], h) = some (.inl (some (.int 1)), h) := s_ireturn (fun _ => Or.inr rfl)
theorem x56 : qCall PG G 56 pc es L rest (some (.inr E, h)) = some (.inr E, h) := cl_e rfl
theorem x57 : qCall PG G 57 pc es L rest (some (.inr E, h)) = some (.inr E, h) := cl_e rfl
theorem x58 : qCall PG G 58 pc es L rest (some (.inr E, h)) = some (.inr E, h) := cl_e rfl
theorem x59 : qCall PG G 59 pc es L rest (some (.inr E, h)) = some (.inr E, h) := cl_e rfl
theorem x60 : qCall PG G 60 pc es L rest (some (.inr E, h)) = some (.inr E, h) := cl_e rfl
theorem x61 : qCall PG G 61 pc es L rest (some (.inr E, h)) = some (.inr E, h) := cl_e rfl
theorem x62 : qCall PG G 62 pc es L rest (some (.inr E, h)) = some (.inr E, h) := cl_e rfl
theorem x63 : qCall PG G 63 pc es L rest (some (.inr E, h)) = some (.inr E, h) := cl_e rfl
theorem x64 : qCall PG G 64 pc es L rest (some (.inr E, h)) = some (.inr E, h) := cl_e rfl
theorem x65 : qCall PG G 65 pc es L rest (some (.inr E, h)) = some (.inr E, h) := cl_e rfl
theorem x66 : qCall PG G 66 pc es L rest (some (.inr E, h)) = some (.inr E, h) := cl_e rfl
theorem r67 {v : Int32} : qR PG G (67, (pc, len, .ireturn, lk, cv) :: es, L, [.int v], h) = some (.inl (some (.int v)), h) := s_ireturn (fun q => absurd (show (0 : Nat) = 1 from q) (by decide))
theorem x67 : qCall PG G 67 pc es L rest (some (.inr E, h)) = some (.inr E, h) := cl_e rfl
theorem x68 : qCall PG G 68 pc es L rest (some (.inr E, h)) = some (.inr E, h) := cl_e rfl
theorem r69 {v : Int32} : qR PG G (69, (pc, len, .ireturn, lk, cv) :: es, L, [.int v], h) = some (.inl (some (.int v)), h) := s_ireturn (fun q => absurd (show (0 : Nat) = 1 from q) (by decide))
theorem x69 : qCall PG G 69 pc es L rest (some (.inr E, h)) = some (.inr E, h) := cl_e rfl
theorem x70 : qCall PG G 70 pc es L rest (some (.inr E, h)) = some (.inr E, h) := cl_e rfl
theorem x71 : qCall PG G 71 pc es L rest (some (.inr E, h)) = some (.inr E, h) := cl_e rfl
theorem r72 {v : Int32} : qR PG G (72, (pc, len, .ireturn, lk, cv) :: es, L, [.int v], h) = some (.inl (some (.int v)), h) := s_ireturn (fun q => absurd (show (0 : Nat) = 1 from q) (by decide))
theorem x72 : qCall PG G 72 pc es L rest (some (.inr E, h)) = some (.inr E, h) := cl_e rfl
theorem x73 : qCall PG G 73 pc es L rest (some (.inr E, h)) = some (.inr E, h) := cl_e rfl
theorem r74 {v : Int32} : qR PG G (74, (pc, len, .ireturn, lk, cv) :: es, L, [.int v], h) = some (.inl (some (.int v)), h) := s_ireturn (fun q => absurd (show (0 : Nat) = 1 from q) (by decide))
theorem x74 : qCall PG G 74 pc es L rest (some (.inr E, h)) = some (.inr E, h) := cl_e rfl
theorem x75 : qCall PG G 75 pc es L rest (some (.inr E, h)) = some (.inr E, h) := cl_e rfl
theorem x76 : qCall PG G 76 pc es L rest (some (.inr E, h)) = some (.inr E, h) := cl_e rfl
theorem x77 : qCall PG G 77 pc es L rest (some (.inr E, h)) = some (.inr E, h) := cl_e rfl
theorem x78 : qCall PG G 78 pc es L rest (some (.inr E, h)) = some (.inr E, h) := cl_e rfl
theorem x79 : qCall PG G 79 pc es L rest (some (.inr E, h)) = some (.inr E, h) := cl_e rfl
theorem r80 {v : Int32} : qR PG G (80, (pc, len, .ireturn, lk, cv) :: es, L, [.int v], h) = some (.inl (some (.int v)), h) := s_ireturn (fun q => absurd (show (0 : Nat) = 1 from q) (by decide))
theorem x80 : qCall PG G 80 pc es L rest (some (.inr E, h)) = some (.inr E, h) := cl_e rfl
theorem r81_0 : qR PG G (81, (pc, len, .ireturn, lk, cv) :: es, L, [.int 0], h) = some (.inl (some (.int 0)), h) := s_ireturn (fun _ => Or.inl rfl)
theorem r81_1 : qR PG G (81, (pc, len, .ireturn, lk, cv) :: es, L, [.int 1], h) = some (.inl (some (.int 1)), h) := s_ireturn (fun _ => Or.inr rfl)
theorem x81 : qCall PG G 81 pc es L rest (some (.inr E, h)) = some (.inr E, h) := cl_e rfl
theorem x82 : qCall PG G 82 pc es L rest (some (.inr E, h)) = some (.inr E, h) := cl_e rfl
theorem r83 {v : Int32} : qR PG G (83, (pc, len, .ireturn, lk, cv) :: es, L, [.int v], h) = some (.inl (some (.int v)), h) := s_ireturn (fun q => absurd (show (0 : Nat) = 1 from q) (by decide))
theorem x83 : qCall PG G 83 pc es L rest (some (.inr E, h)) = some (.inr E, h) := cl_e rfl
theorem r84 {v : Int32} : qR PG G (84, (pc, len, .ireturn, lk, cv) :: es, L, [.int v], h) = some (.inl (some (.int v)), h) := s_ireturn (fun q => absurd (show (0 : Nat) = 1 from q) (by decide))
theorem x84 : qCall PG G 84 pc es L rest (some (.inr E, h)) = some (.inr E, h) := cl_e rfl
theorem x85 : qCall PG G 85 pc es L rest (some (.inr E, h)) = some (.inr E, h) := cl_e rfl
theorem x86 : qCall PG G 86 pc es L rest (some (.inr E, h)) = some (.inr E, h) := cl_e rfl
theorem r87 {v : Int32} : qR PG G (87, (pc, len, .ireturn, lk, cv) :: es, L, [.int v], h) = some (.inl (some (.int v)), h) := s_ireturn (fun q => absurd (show (0 : Nat) = 1 from q) (by decide))
theorem x87 : qCall PG G 87 pc es L rest (some (.inr E, h)) = some (.inr E, h) := cl_e rfl
theorem r88 {v : Int32} : qR PG G (88, (pc, len, .ireturn, lk, cv) :: es, L, [.int v], h) = some (.inl (some (.int v)), h) := s_ireturn (fun q => absurd (show (0 : Nat) = 1 from q) (by decide))
theorem x88 : qCall PG G 88 pc es L rest (some (.inr E, h)) = some (.inr E, h) := cl_e rfl
theorem x89 : qCall PG G 89 pc es L rest (some (.inr E, h)) = some (.inr E, h) := cl_e rfl
theorem x90 : qCall PG G 90 pc es L rest (some (.inr E, h)) = some (.inr E, h) := cl_e rfl
theorem x91 : qCall PG G 91 pc es L rest (some (.inr E, h)) = some (.inr E, h) := cl_e rfl
theorem r92 {v : Int32} : qR PG G (92, (pc, len, .ireturn, lk, cv) :: es, L, [.int v], h) = some (.inl (some (.int v)), h) := s_ireturn (fun q => absurd (show (0 : Nat) = 1 from q) (by decide))
theorem x92 : qCall PG G 92 pc es L rest (some (.inr E, h)) = some (.inr E, h) := cl_e rfl
theorem x93 : qCall PG G 93 pc es L rest (some (.inr E, h)) = some (.inr E, h) := cl_e rfl
theorem x94 : qCall PG G 94 pc es L rest (some (.inr E, h)) = some (.inr E, h) := cl_e rfl
theorem x95 : qCall PG G 95 pc es L rest (some (.inr E, h)) = some (.inr E, h) := cl_e rfl
theorem x96 : qCall PG G 96 pc es L rest (some (.inr E, h)) = some (.inr E, h) := cl_e rfl
theorem r97 {v : Int32} : qR PG G (97, (pc, len, .ireturn, lk, cv) :: es, L, [.int v], h) = some (.inl (some (.int v)), h) := s_ireturn (fun q => absurd (show (0 : Nat) = 1 from q) (by decide))
theorem x97 : qCall PG G 97 pc es L rest (some (.inr E, h)) = some (.inr E, h) := cl_e rfl
theorem x98 : qCall PG G 98 pc es L rest (some (.inr E, h)) = some (.inr E, h) := cl_e rfl
theorem x99 : qCall PG G 99 pc es L rest (some (.inr E, h)) = some (.inr E, h) := cl_e rfl
theorem x100 : qCall PG G 100 pc es L rest (some (.inr E, h)) = some (.inr E, h) := cl_e rfl
theorem x101 : qCall PG G 101 pc es L rest (some (.inr E, h)) = some (.inr E, h) := cl_e rfl
theorem x102 : qCall PG G 102 pc es L rest (some (.inr E, h)) = some (.inr E, h) := cl_e rfl
theorem x103 : qCall PG G 103 pc es L rest (some (.inr E, h)) = some (.inr E, h) := cl_e rfl
theorem x104 : qCall PG G 104 pc es L rest (some (.inr E, h)) = some (.inr E, h) := cl_e rfl
theorem x105 : qCall PG G 105 pc es L rest (some (.inr E, h)) = some (.inr E, h) := cl_e rfl
theorem x106 : qCall PG G 106 pc es L rest (some (.inr E, h)) = some (.inr E, h) := cl_e rfl
theorem x107 : qCall PG G 107 pc es L rest (some (.inr E, h)) = some (.inr E, h) := cl_e rfl
theorem x108 : qCall PG G 108 pc es L rest (some (.inr E, h)) = some (.inr E, h) := cl_e rfl
theorem x109 : qCall PG G 109 pc es L rest (some (.inr E, h)) = some (.inr E, h) := cl_e rfl
theorem x110 : qCall PG G 110 pc es L rest (some (.inr E, h)) = some (.inr E, h) := cl_e rfl
theorem x111 : qCall PG G 111 pc es L rest (some (.inr E, h)) = some (.inr E, h) := cl_e rfl
theorem x112 : qCall PG G 112 pc es L rest (some (.inr E, h)) = some (.inr E, h) := cl_e rfl
theorem x113 : qCall PG G 113 pc es L rest (some (.inr E, h)) = some (.inr E, h) := cl_e rfl
theorem r114 {v : Int32} : qR PG G (114, (pc, len, .ireturn, lk, cv) :: es, L, [.int v], h) = some (.inl (some (.int v)), h) := s_ireturn (fun q => absurd (show (0 : Nat) = 1 from q) (by decide))
theorem x114 : qCall PG G 114 pc es L rest (some (.inr E, h)) = some (.inr E, h) := cl_e rfl
theorem r115 {v : Int32} : qR PG G (115, (pc, len, .ireturn, lk, cv) :: es, L, [.int v], h) = some (.inl (some (.int v)), h) := s_ireturn (fun q => absurd (show (0 : Nat) = 1 from q) (by decide))
theorem x115 : qCall PG G 115 pc es L rest (some (.inr E, h)) = some (.inr E, h) := cl_e rfl
theorem r116 {v : Int32} : qR PG G (116, (pc, len, .ireturn, lk, cv) :: es, L, [.int v], h) = some (.inl (some (.int v)), h) := s_ireturn (fun q => absurd (show (0 : Nat) = 1 from q) (by decide))
theorem x116 : qCall PG G 116 pc es L rest (some (.inr E, h)) = some (.inr E, h) := cl_e rfl
theorem r117 {v : Int32} : qR PG G (117, (pc, len, .ireturn, lk, cv) :: es, L, [.int v], h) = some (.inl (some (.int v)), h) := s_ireturn (fun q => absurd (show (0 : Nat) = 1 from q) (by decide))
theorem x117 : qCall PG G 117 pc es L rest (some (.inr E, h)) = some (.inr E, h) := cl_e rfl
theorem r118 {v : Int32} : qR PG G (118, (pc, len, .ireturn, lk, cv) :: es, L, [.int v], h) = some (.inl (some (.int v)), h) := s_ireturn (fun q => absurd (show (0 : Nat) = 1 from q) (by decide))
theorem x118 : qCall PG G 118 pc es L rest (some (.inr E, h)) = some (.inr E, h) := cl_e rfl
theorem x119 : qCall PG G 119 pc es L rest (some (.inr E, h)) = some (.inr E, h) := cl_e rfl
theorem x120 : qCall PG G 120 pc es L rest (some (.inr E, h)) = some (.inr E, h) := cl_e rfl
theorem x121 : qCall PG G 121 pc es L rest (some (.inr E, h)) = some (.inr E, h) := cl_e rfl
theorem x122 : qCall PG G 122 pc es L rest (some (.inr E, h)) = some (.inr E, h) := cl_e rfl
theorem x123 : qCall PG G 123 pc es L rest (some (.inr E, h)) = some (.inr E, h) := cl_e rfl
theorem x124 : qCall PG G 124 pc es L rest (some (.inr E, h)) = some (.inr E, h) := cl_e rfl
theorem x125 : qCall PG G 125 pc es L rest (some (.inr E, h)) = some (.inr E, h) := cl_e rfl
theorem x126 : qCall PG G 126 pc es L rest (some (.inr E, h)) = some (.inr E, h) := cl_e rfl
theorem x127 : qCall PG G 127 pc es L rest (some (.inr E, h)) = some (.inr E, h) := cl_e rfl
theorem x128 : qCall PG G 128 pc es L rest (some (.inr E, h)) = some (.inr E, h) := cl_e rfl
theorem x129 : qCall PG G 129 pc es L rest (some (.inr E, h)) = some (.inr E, h) := cl_e rfl
theorem x130 : qCall PG G 130 pc es L rest (some (.inr E, h)) = some (.inr E, h) := cl_e rfl
theorem x131 : qCall PG G 131 pc es L rest (some (.inr E, h)) = some (.inr E, h) := cl_e rfl
theorem r132 {v : Int32} : qR PG G (132, (pc, len, .ireturn, lk, cv) :: es, L, [.int v], h) = some (.inl (some (.int v)), h) := s_ireturn (fun q => absurd (show (0 : Nat) = 1 from q) (by decide))
theorem x132 : qCall PG G 132 pc es L rest (some (.inr E, h)) = some (.inr E, h) := cl_e rfl
theorem x133 : qCall PG G 133 pc es L rest (some (.inr E, h)) = some (.inr E, h) := cl_e rfl
theorem x134 : qCall PG G 134 pc es L rest (some (.inr E, h)) = some (.inr E, h) := cl_e rfl
theorem r135 {v : Int32} : qR PG G (135, (pc, len, .ireturn, lk, cv) :: es, L, [.int v], h) = some (.inl (some (.int v)), h) := s_ireturn (fun q => absurd (show (0 : Nat) = 1 from q) (by decide))
theorem x135 : qCall PG G 135 pc es L rest (some (.inr E, h)) = some (.inr E, h) := cl_e rfl
theorem r136 {v : Int32} : qR PG G (136, (pc, len, .ireturn, lk, cv) :: es, L, [.int v], h) = some (.inl (some (.int v)), h) := s_ireturn (fun q => absurd (show (0 : Nat) = 1 from q) (by decide))
theorem x136 : qCall PG G 136 pc es L rest (some (.inr E, h)) = some (.inr E, h) := cl_e rfl
theorem x137 : qCall PG G 137 pc es L rest (some (.inr E, h)) = some (.inr E, h) := cl_e rfl
theorem x138 : qCall PG G 138 pc es L rest (some (.inr E, h)) = some (.inr E, h) := cl_e rfl
theorem x139 : qCall PG G 139 pc es L rest (some (.inr E, h)) = some (.inr E, h) := cl_e rfl
theorem x140 : qCall PG G 140 pc es L rest (some (.inr E, h)) = some (.inr E, h) := cl_e rfl
theorem x141 : qCall PG G 141 pc es L rest (some (.inr E, h)) = some (.inr E, h) := cl_e rfl
theorem x142 : qCall PG G 142 pc es L rest (some (.inr E, h)) = some (.inr E, h) := cl_e rfl
theorem x143 : qCall PG G 143 pc es L rest (some (.inr E, h)) = some (.inr E, h) := cl_e rfl
theorem x144 : qCall PG G 144 pc es L rest (some (.inr E, h)) = some (.inr E, h) := cl_e rfl
theorem r145 {v : Int32} : qR PG G (145, (pc, len, .ireturn, lk, cv) :: es, L, [.int v], h) = some (.inl (some (.int v)), h) := s_ireturn (fun q => absurd (show (0 : Nat) = 1 from q) (by decide))
theorem x145 : qCall PG G 145 pc es L rest (some (.inr E, h)) = some (.inr E, h) := cl_e rfl
theorem x146 : qCall PG G 146 pc es L rest (some (.inr E, h)) = some (.inr E, h) := cl_e rfl
theorem x147 : qCall PG G 147 pc es L rest (some (.inr E, h)) = some (.inr E, h) := cl_e rfl
theorem x148 : qCall PG G 148 pc es L rest (some (.inr E, h)) = some (.inr E, h) := cl_e rfl
theorem r149 {v : Int32} : qR PG G (149, (pc, len, .ireturn, lk, cv) :: es, L, [.int v], h) = some (.inl (some (.int v)), h) := s_ireturn (fun q => absurd (show (0 : Nat) = 1 from q) (by decide))
theorem x149 : qCall PG G 149 pc es L rest (some (.inr E, h)) = some (.inr E, h) := cl_e rfl
theorem r150 {v : Int32} : qR PG G (150, (pc, len, .ireturn, lk, cv) :: es, L, [.int v], h) = some (.inl (some (.int v)), h) := s_ireturn (fun q => absurd (show (0 : Nat) = 1 from q) (by decide))
theorem x150 : qCall PG G 150 pc es L rest (some (.inr E, h)) = some (.inr E, h) := cl_e rfl
theorem r151 {v : Int32} : qR PG G (151, (pc, len, .ireturn, lk, cv) :: es, L, [.int v], h) = some (.inl (some (.int v)), h) := s_ireturn (fun q => absurd (show (0 : Nat) = 1 from q) (by decide))
theorem x151 : qCall PG G 151 pc es L rest (some (.inr E, h)) = some (.inr E, h) := cl_e rfl
theorem r152 {v : Int32} : qR PG G (152, (pc, len, .ireturn, lk, cv) :: es, L, [.int v], h) = some (.inl (some (.int v)), h) := s_ireturn (fun q => absurd (show (0 : Nat) = 1 from q) (by decide))
theorem x152 : qCall PG G 152 pc es L rest (some (.inr E, h)) = some (.inr E, h) := cl_e rfl
theorem x153 : qCall PG G 153 pc es L rest (some (.inr E, h)) = some (.inr E, h) := cl_e rfl
theorem r154 {v : Int32} : qR PG G (154, (pc, len, .ireturn, lk, cv) :: es, L, [.int v], h) = some (.inl (some (.int v)), h) := s_ireturn (fun q => absurd (show (0 : Nat) = 1 from q) (by decide))
theorem x154 : qCall PG G 154 pc es L rest (some (.inr E, h)) = some (.inr E, h) := cl_e rfl
theorem r157 {v : Int32} : qR PG G (157, (pc, len, .ireturn, lk, cv) :: es, L, [.int v], h) = some (.inl (some (.int v)), h) := s_ireturn (fun q => absurd (show (0 : Nat) = 1 from q) (by decide))
theorem r158 {v : Int32} : qR PG G (158, (pc, len, .ireturn, lk, cv) :: es, L, [.int v], h) = some (.inl (some (.int v)), h) := s_ireturn (fun q => absurd (show (0 : Nat) = 1 from q) (by decide))
theorem r159 {v : Int32} : qR PG G (159, (pc, len, .ireturn, lk, cv) :: es, L, [.int v], h) = some (.inl (some (.int v)), h) := s_ireturn (fun q => absurd (show (0 : Nat) = 1 from q) (by decide))
theorem r160 {v : Int32} : qR PG G (160, (pc, len, .ireturn, lk, cv) :: es, L, [.int v], h) = some (.inl (some (.int v)), h) := s_ireturn (fun q => absurd (show (0 : Nat) = 1 from q) (by decide))
theorem r163 {v : Int32} : qR PG G (163, (pc, len, .ireturn, lk, cv) :: es, L, [.int v], h) = some (.inl (some (.int v)), h) := s_ireturn (fun q => absurd (show (0 : Nat) = 1 from q) (by decide))
theorem r164 {v : Int32} : qR PG G (164, (pc, len, .ireturn, lk, cv) :: es, L, [.int v], h) = some (.inl (some (.int v)), h) := s_ireturn (fun q => absurd (show (0 : Nat) = 1 from q) (by decide))
theorem r165_0 : qR PG G (165, (pc, len, .ireturn, lk, cv) :: es, L, [.int 0], h) = some (.inl (some (.int 0)), h) := s_ireturn (fun _ => Or.inl rfl)
theorem r165_1 : qR PG G (165, (pc, len, .ireturn, lk, cv) :: es, L, [.int 1], h) = some (.inl (some (.int 1)), h) := s_ireturn (fun _ => Or.inr rfl)
theorem r166_0 : qR PG G (166, (pc, len, .ireturn, lk, cv) :: es, L, [.int 0], h) = some (.inl (some (.int 0)), h) := s_ireturn (fun _ => Or.inl rfl)
theorem r166_1 : qR PG G (166, (pc, len, .ireturn, lk, cv) :: es, L, [.int 1], h) = some (.inl (some (.int 1)), h) := s_ireturn (fun _ => Or.inr rfl)
theorem r168_0 : qR PG G (168, (pc, len, .ireturn, lk, cv) :: es, L, [.int 0], h) = some (.inl (some (.int 0)), h) := s_ireturn (fun _ => Or.inl rfl)
theorem r168_1 : qR PG G (168, (pc, len, .ireturn, lk, cv) :: es, L, [.int 1], h) = some (.inl (some (.int 1)), h) := s_ireturn (fun _ => Or.inr rfl)
theorem r172 {v : Int32} : qR PG G (172, (pc, len, .ireturn, lk, cv) :: es, L, [.int v], h) = some (.inl (some (.int v)), h) := s_ireturn (fun q => absurd (show (0 : Nat) = 1 from q) (by decide))
theorem r174 {v : Int32} : qR PG G (174, (pc, len, .ireturn, lk, cv) :: es, L, [.int v], h) = some (.inl (some (.int v)), h) := s_ireturn (fun q => absurd (show (0 : Nat) = 1 from q) (by decide))
theorem r176 {v : Int32} : qR PG G (176, (pc, len, .ireturn, lk, cv) :: es, L, [.int v], h) = some (.inl (some (.int v)), h) := s_ireturn (fun q => absurd (show (0 : Nat) = 1 from q) (by decide))
theorem r178 {v : Int32} : qR PG G (178, (pc, len, .ireturn, lk, cv) :: es, L, [.int v], h) = some (.inl (some (.int v)), h) := s_ireturn (fun q => absurd (show (0 : Nat) = 1 from q) (by decide))
theorem r179_0 : qR PG G (179, (pc, len, .ireturn, lk, cv) :: es, L, [.int 0], h) = some (.inl (some (.int 0)), h) := s_ireturn (fun _ => Or.inl rfl)
theorem r179_1 : qR PG G (179, (pc, len, .ireturn, lk, cv) :: es, L, [.int 1], h) = some (.inl (some (.int 1)), h) := s_ireturn (fun _ => Or.inr rfl)
theorem r181 {v : Int32} : qR PG G (181, (pc, len, .ireturn, lk, cv) :: es, L, [.int v], h) = some (.inl (some (.int v)), h) := s_ireturn (fun q => absurd (show (0 : Nat) = 1 from q) (by decide))
theorem r182 {v : Int32} : qR PG G (182, (pc, len, .ireturn, lk, cv) :: es, L, [.int v], h) = some (.inl (some (.int v)), h) := s_ireturn (fun q => absurd (show (0 : Nat) = 1 from q) (by decide))
theorem r183 {v : Int32} : qR PG G (183, (pc, len, .ireturn, lk, cv) :: es, L, [.int v], h) = some (.inl (some (.int v)), h) := s_ireturn (fun q => absurd (show (0 : Nat) = 1 from q) (by decide))
theorem r184 {v : Int32} : qR PG G (184, (pc, len, .ireturn, lk, cv) :: es, L, [.int v], h) = some (.inl (some (.int v)), h) := s_ireturn (fun q => absurd (show (0 : Nat) = 1 from q) (by decide))
theorem r185_0 : qR PG G (185, (pc, len, .ireturn, lk, cv) :: es, L, [.int 0], h) = some (.inl (some (.int 0)), h) := s_ireturn (fun _ => Or.inl rfl)
theorem r185_1 : qR PG G (185, (pc, len, .ireturn, lk, cv) :: es, L, [.int 1], h) = some (.inl (some (.int 1)), h) := s_ireturn (fun _ => Or.inr rfl)
theorem r186 {v : Int32} : qR PG G (186, (pc, len, .ireturn, lk, cv) :: es, L, [.int v], h) = some (.inl (some (.int v)), h) := s_ireturn (fun q => absurd (show (0 : Nat) = 1 from q) (by decide))
theorem r189_0 : qR PG G (189, (pc, len, .ireturn, lk, cv) :: es, L, [.int 0], h) = some (.inl (some (.int 0)), h) := s_ireturn (fun _ => Or.inl rfl)
theorem r189_1 : qR PG G (189, (pc, len, .ireturn, lk, cv) :: es, L, [.int 1], h) = some (.inl (some (.int 1)), h) := s_ireturn (fun _ => Or.inr rfl)
theorem r192 {v : Int32} : qR PG G (192, (pc, len, .ireturn, lk, cv) :: es, L, [.int v], h) = some (.inl (some (.int v)), h) := s_ireturn (fun q => absurd (show (0 : Nat) = 1 from q) (by decide))
theorem r193 {v : Int32} : qR PG G (193, (pc, len, .ireturn, lk, cv) :: es, L, [.int v], h) = some (.inl (some (.int v)), h) := s_ireturn (fun q => absurd (show (0 : Nat) = 1 from q) (by decide))
theorem r194 {v : Int32} : qR PG G (194, (pc, len, .ireturn, lk, cv) :: es, L, [.int v], h) = some (.inl (some (.int v)), h) := s_ireturn (fun q => absurd (show (0 : Nat) = 1 from q) (by decide))
theorem r195 {v : Int32} : qR PG G (195, (pc, len, .ireturn, lk, cv) :: es, L, [.int v], h) = some (.inl (some (.int v)), h) := s_ireturn (fun q => absurd (show (0 : Nat) = 1 from q) (by decide))
theorem r199 {v : Int32} : qR PG G (199, (pc, len, .ireturn, lk, cv) :: es, L, [.int v], h) = some (.inl (some (.int v)), h) := s_ireturn (fun q => absurd (show (0 : Nat) = 1 from q) (by decide))
theorem r200 {v : Int32} : qR PG G (200, (pc, len, .ireturn, lk, cv) :: es, L, [.int v], h) = some (.inl (some (.int v)), h) := s_ireturn (fun q => absurd (show (0 : Nat) = 1 from q) (by decide))
theorem r204_0 : qR PG G (204, (pc, len, .ireturn, lk, cv) :: es, L, [.int 0], h) = some (.inl (some (.int 0)), h) := s_ireturn (fun _ => Or.inl rfl)
theorem r204_1 : qR PG G (204, (pc, len, .ireturn, lk, cv) :: es, L, [.int 1], h) = some (.inl (some (.int 1)), h) := s_ireturn (fun _ => Or.inr rfl)
theorem r206_0 : qR PG G (206, (pc, len, .ireturn, lk, cv) :: es, L, [.int 0], h) = some (.inl (some (.int 0)), h) := s_ireturn (fun _ => Or.inl rfl)
theorem r206_1 : qR PG G (206, (pc, len, .ireturn, lk, cv) :: es, L, [.int 1], h) = some (.inl (some (.int 1)), h) := s_ireturn (fun _ => Or.inr rfl)
theorem r208 {v : Int32} : qR PG G (208, (pc, len, .ireturn, lk, cv) :: es, L, [.int v], h) = some (.inl (some (.int v)), h) := s_ireturn (fun q => absurd (show (0 : Nat) = 1 from q) (by decide))
theorem r227_0 : qR PG G (227, (pc, len, .ireturn, lk, cv) :: es, L, [.int 0], h) = some (.inl (some (.int 0)), h) := s_ireturn (fun _ => Or.inl rfl)
theorem r227_1 : qR PG G (227, (pc, len, .ireturn, lk, cv) :: es, L, [.int 1], h) = some (.inl (some (.int 1)), h) := s_ireturn (fun _ => Or.inr rfl)
theorem r229_0 : qR PG G (229, (pc, len, .ireturn, lk, cv) :: es, L, [.int 0], h) = some (.inl (some (.int 0)), h) := s_ireturn (fun _ => Or.inl rfl)
theorem r229_1 : qR PG G (229, (pc, len, .ireturn, lk, cv) :: es, L, [.int 1], h) = some (.inl (some (.int 1)), h) := s_ireturn (fun _ => Or.inr rfl)
theorem r230 {v : Int32} : qR PG G (230, (pc, len, .ireturn, lk, cv) :: es, L, [.int v], h) = some (.inl (some (.int v)), h) := s_ireturn (fun q => absurd (show (0 : Nat) = 1 from q) (by decide))
theorem r234 {v : Int32} : qR PG G (234, (pc, len, .ireturn, lk, cv) :: es, L, [.int v], h) = some (.inl (some (.int v)), h) := s_ireturn (fun q => absurd (show (0 : Nat) = 1 from q) (by decide))
theorem r236 {v : Int32} : qR PG G (236, (pc, len, .ireturn, lk, cv) :: es, L, [.int v], h) = some (.inl (some (.int v)), h) := s_ireturn (fun q => absurd (show (0 : Nat) = 1 from q) (by decide))
theorem r237 {v : Int32} : qR PG G (237, (pc, len, .ireturn, lk, cv) :: es, L, [.int v], h) = some (.inl (some (.int v)), h) := s_ireturn (fun q => absurd (show (0 : Nat) = 1 from q) (by decide))
theorem r238 {v : Int32} : qR PG G (238, (pc, len, .ireturn, lk, cv) :: es, L, [.int v], h) = some (.inl (some (.int v)), h) := s_ireturn (fun q => absurd (show (0 : Nat) = 1 from q) (by decide))
theorem r239 {v : Int32} : qR PG G (239, (pc, len, .ireturn, lk, cv) :: es, L, [.int v], h) = some (.inl (some (.int v)), h) := s_ireturn (fun q => absurd (show (0 : Nat) = 1 from q) (by decide))
theorem r241_0 : qR PG G (241, (pc, len, .ireturn, lk, cv) :: es, L, [.int 0], h) = some (.inl (some (.int 0)), h) := s_ireturn (fun _ => Or.inl rfl)
theorem r241_1 : qR PG G (241, (pc, len, .ireturn, lk, cv) :: es, L, [.int 1], h) = some (.inl (some (.int 1)), h) := s_ireturn (fun _ => Or.inr rfl)
theorem r242 {v : Int32} : qR PG G (242, (pc, len, .ireturn, lk, cv) :: es, L, [.int v], h) = some (.inl (some (.int v)), h) := s_ireturn (fun q => absurd (show (0 : Nat) = 1 from q) (by decide))
theorem r245_0 : qR PG G (245, (pc, len, .ireturn, lk, cv) :: es, L, [.int 0], h) = some (.inl (some (.int 0)), h) := s_ireturn (fun _ => Or.inl rfl)
theorem r245_1 : qR PG G (245, (pc, len, .ireturn, lk, cv) :: es, L, [.int 1], h) = some (.inl (some (.int 1)), h) := s_ireturn (fun _ => Or.inr rfl)
theorem r246 {v : Int32} : qR PG G (246, (pc, len, .ireturn, lk, cv) :: es, L, [.int v], h) = some (.inl (some (.int v)), h) := s_ireturn (fun q => absurd (show (0 : Nat) = 1 from q) (by decide))
theorem r249 {v : Int32} : qR PG G (249, (pc, len, .ireturn, lk, cv) :: es, L, [.int v], h) = some (.inl (some (.int v)), h) := s_ireturn (fun q => absurd (show (0 : Nat) = 1 from q) (by decide))
theorem r250 {v : Int32} : qR PG G (250, (pc, len, .ireturn, lk, cv) :: es, L, [.int v], h) = some (.inl (some (.int v)), h) := s_ireturn (fun q => absurd (show (0 : Nat) = 1 from q) (by decide))
theorem r252 {v : Int32} : qR PG G (252, (pc, len, .ireturn, lk, cv) :: es, L, [.int v], h) = some (.inl (some (.int v)), h) := s_ireturn (fun q => absurd (show (0 : Nat) = 1 from q) (by decide))
theorem r255_0 : qR PG G (255, (pc, len, .ireturn, lk, cv) :: es, L, [.int 0], h) = some (.inl (some (.int 0)), h) := s_ireturn (fun _ => Or.inl rfl)
theorem r255_1 : qR PG G (255, (pc, len, .ireturn, lk, cv) :: es, L, [.int 1], h) = some (.inl (some (.int 1)), h) := s_ireturn (fun _ => Or.inr rfl)
theorem r257 {v : Int32} : qR PG G (257, (pc, len, .ireturn, lk, cv) :: es, L, [.int v], h) = some (.inl (some (.int v)), h) := s_ireturn (fun q => absurd (show (0 : Nat) = 1 from q) (by decide))
theorem r261 {v : Int32} : qR PG G (261, (pc, len, .ireturn, lk, cv) :: es, L, [.int v], h) = some (.inl (some (.int v)), h) := s_ireturn (fun q => absurd (show (0 : Nat) = 1 from q) (by decide))
theorem r267 {v : Int32} : qR PG G (267, (pc, len, .ireturn, lk, cv) :: es, L, [.int v], h) = some (.inl (some (.int v)), h) := s_ireturn (fun q => absurd (show (0 : Nat) = 1 from q) (by decide))
theorem r268 {v : Int32} : qR PG G (268, (pc, len, .ireturn, lk, cv) :: es, L, [.int v], h) = some (.inl (some (.int v)), h) := s_ireturn (fun q => absurd (show (0 : Nat) = 1 from q) (by decide))
theorem r272 {v : Int32} : qR PG G (272, (pc, len, .ireturn, lk, cv) :: es, L, [.int v], h) = some (.inl (some (.int v)), h) := s_ireturn (fun q => absurd (show (0 : Nat) = 1 from q) (by decide))
theorem r273 {v : Int32} : qR PG G (273, (pc, len, .ireturn, lk, cv) :: es, L, [.int v], h) = some (.inl (some (.int v)), h) := s_ireturn (fun q => absurd (show (0 : Nat) = 1 from q) (by decide))
theorem r275 {v : Int32} : qR PG G (275, (pc, len, .ireturn, lk, cv) :: es, L, [.int v], h) = some (.inl (some (.int v)), h) := s_ireturn (fun q => absurd (show (0 : Nat) = 1 from q) (by decide))
theorem r276 {v : Int32} : qR PG G (276, (pc, len, .ireturn, lk, cv) :: es, L, [.int v], h) = some (.inl (some (.int v)), h) := s_ireturn (fun q => absurd (show (0 : Nat) = 1 from q) (by decide))
theorem r277 {v : Int32} : qR PG G (277, (pc, len, .ireturn, lk, cv) :: es, L, [.int v], h) = some (.inl (some (.int v)), h) := s_ireturn (fun q => absurd (show (0 : Nat) = 1 from q) (by decide))
theorem r278 {v : Int32} : qR PG G (278, (pc, len, .ireturn, lk, cv) :: es, L, [.int v], h) = some (.inl (some (.int v)), h) := s_ireturn (fun q => absurd (show (0 : Nat) = 1 from q) (by decide))
theorem r279 {v : Int32} : qR PG G (279, (pc, len, .ireturn, lk, cv) :: es, L, [.int v], h) = some (.inl (some (.int v)), h) := s_ireturn (fun q => absurd (show (0 : Nat) = 1 from q) (by decide))
theorem r280 {v : Int32} : qR PG G (280, (pc, len, .ireturn, lk, cv) :: es, L, [.int v], h) = some (.inl (some (.int v)), h) := s_ireturn (fun q => absurd (show (0 : Nat) = 1 from q) (by decide))
theorem r281 {v : Int32} : qR PG G (281, (pc, len, .ireturn, lk, cv) :: es, L, [.int v], h) = some (.inl (some (.int v)), h) := s_ireturn (fun q => absurd (show (0 : Nat) = 1 from q) (by decide))
theorem r282 {v : Int32} : qR PG G (282, (pc, len, .ireturn, lk, cv) :: es, L, [.int v], h) = some (.inl (some (.int v)), h) := s_ireturn (fun q => absurd (show (0 : Nat) = 1 from q) (by decide))
theorem r283 {v : Int32} : qR PG G (283, (pc, len, .ireturn, lk, cv) :: es, L, [.int v], h) = some (.inl (some (.int v)), h) := s_ireturn (fun q => absurd (show (0 : Nat) = 1 from q) (by decide))
theorem r284 {v : Int32} : qR PG G (284, (pc, len, .ireturn, lk, cv) :: es, L, [.int v], h) = some (.inl (some (.int v)), h) := s_ireturn (fun q => absurd (show (0 : Nat) = 1 from q) (by decide))
theorem r285 {v : Int32} : qR PG G (285, (pc, len, .ireturn, lk, cv) :: es, L, [.int v], h) = some (.inl (some (.int v)), h) := s_ireturn (fun q => absurd (show (0 : Nat) = 1 from q) (by decide))
theorem r286 {v : Int32} : qR PG G (286, (pc, len, .ireturn, lk, cv) :: es, L, [.int v], h) = some (.inl (some (.int v)), h) := s_ireturn (fun q => absurd (show (0 : Nat) = 1 from q) (by decide))
theorem r287 {v : Int32} : qR PG G (287, (pc, len, .ireturn, lk, cv) :: es, L, [.int v], h) = some (.inl (some (.int v)), h) := s_ireturn (fun q => absurd (show (0 : Nat) = 1 from q) (by decide))
theorem r288 {v : Int32} : qR PG G (288, (pc, len, .ireturn, lk, cv) :: es, L, [.int v], h) = some (.inl (some (.int v)), h) := s_ireturn (fun q => absurd (show (0 : Nat) = 1 from q) (by decide))
theorem r289 {v : Int32} : qR PG G (289, (pc, len, .ireturn, lk, cv) :: es, L, [.int v], h) = some (.inl (some (.int v)), h) := s_ireturn (fun q => absurd (show (0 : Nat) = 1 from q) (by decide))
theorem r290 {v : Int32} : qR PG G (290, (pc, len, .ireturn, lk, cv) :: es, L, [.int v], h) = some (.inl (some (.int v)), h) := s_ireturn (fun q => absurd (show (0 : Nat) = 1 from q) (by decide))
theorem r291 {v : Int32} : qR PG G (291, (pc, len, .ireturn, lk, cv) :: es, L, [.int v], h) = some (.inl (some (.int v)), h) := s_ireturn (fun q => absurd (show (0 : Nat) = 1 from q) (by decide))
theorem r292 {v : Int32} : qR PG G (292, (pc, len, .ireturn, lk, cv) :: es, L, [.int v], h) = some (.inl (some (.int v)), h) := s_ireturn (fun q => absurd (show (0 : Nat) = 1 from q) (by decide))
theorem r293 {v : Int32} : qR PG G (293, (pc, len, .ireturn, lk, cv) :: es, L, [.int v], h) = some (.inl (some (.int v)), h) := s_ireturn (fun q => absurd (show (0 : Nat) = 1 from q) (by decide))
theorem r294 {v : Int32} : qR PG G (294, (pc, len, .ireturn, lk, cv) :: es, L, [.int v], h) = some (.inl (some (.int v)), h) := s_ireturn (fun q => absurd (show (0 : Nat) = 1 from q) (by decide))
theorem r295 {v : Int32} : qR PG G (295, (pc, len, .ireturn, lk, cv) :: es, L, [.int v], h) = some (.inl (some (.int v)), h) := s_ireturn (fun q => absurd (show (0 : Nat) = 1 from q) (by decide))
theorem r296 {v : Int32} : qR PG G (296, (pc, len, .ireturn, lk, cv) :: es, L, [.int v], h) = some (.inl (some (.int v)), h) := s_ireturn (fun q => absurd (show (0 : Nat) = 1 from q) (by decide))
theorem r297 {v : Int32} : qR PG G (297, (pc, len, .ireturn, lk, cv) :: es, L, [.int v], h) = some (.inl (some (.int v)), h) := s_ireturn (fun q => absurd (show (0 : Nat) = 1 from q) (by decide))
theorem r298 {v : Int32} : qR PG G (298, (pc, len, .ireturn, lk, cv) :: es, L, [.int v], h) = some (.inl (some (.int v)), h) := s_ireturn (fun q => absurd (show (0 : Nat) = 1 from q) (by decide))
theorem r299 {v : Int32} : qR PG G (299, (pc, len, .ireturn, lk, cv) :: es, L, [.int v], h) = some (.inl (some (.int v)), h) := s_ireturn (fun q => absurd (show (0 : Nat) = 1 from q) (by decide))
theorem r300 {v : Int32} : qR PG G (300, (pc, len, .ireturn, lk, cv) :: es, L, [.int v], h) = some (.inl (some (.int v)), h) := s_ireturn (fun q => absurd (show (0 : Nat) = 1 from q) (by decide))
theorem r301 {v : Int32} : qR PG G (301, (pc, len, .ireturn, lk, cv) :: es, L, [.int v], h) = some (.inl (some (.int v)), h) := s_ireturn (fun q => absurd (show (0 : Nat) = 1 from q) (by decide))
theorem r302 {v : Int32} : qR PG G (302, (pc, len, .ireturn, lk, cv) :: es, L, [.int v], h) = some (.inl (some (.int v)), h) := s_ireturn (fun q => absurd (show (0 : Nat) = 1 from q) (by decide))
theorem r303 {v : Int32} : qR PG G (303, (pc, len, .ireturn, lk, cv) :: es, L, [.int v], h) = some (.inl (some (.int v)), h) := s_ireturn (fun q => absurd (show (0 : Nat) = 1 from q) (by decide))
theorem r304 {v : Int32} : qR PG G (304, (pc, len, .ireturn, lk, cv) :: es, L, [.int v], h) = some (.inl (some (.int v)), h) := s_ireturn (fun q => absurd (show (0 : Nat) = 1 from q) (by decide))
theorem r305 {v : Int32} : qR PG G (305, (pc, len, .ireturn, lk, cv) :: es, L, [.int v], h) = some (.inl (some (.int v)), h) := s_ireturn (fun q => absurd (show (0 : Nat) = 1 from q) (by decide))
theorem r306 {v : Int32} : qR PG G (306, (pc, len, .ireturn, lk, cv) :: es, L, [.int v], h) = some (.inl (some (.int v)), h) := s_ireturn (fun q => absurd (show (0 : Nat) = 1 from q) (by decide))
theorem r307 {v : Int32} : qR PG G (307, (pc, len, .ireturn, lk, cv) :: es, L, [.int v], h) = some (.inl (some (.int v)), h) := s_ireturn (fun q => absurd (show (0 : Nat) = 1 from q) (by decide))
theorem r308 {v : Int32} : qR PG G (308, (pc, len, .ireturn, lk, cv) :: es, L, [.int v], h) = some (.inl (some (.int v)), h) := s_ireturn (fun q => absurd (show (0 : Nat) = 1 from q) (by decide))
theorem r309 {v : Int32} : qR PG G (309, (pc, len, .ireturn, lk, cv) :: es, L, [.int v], h) = some (.inl (some (.int v)), h) := s_ireturn (fun q => absurd (show (0 : Nat) = 1 from q) (by decide))
theorem r310 {v : Int32} : qR PG G (310, (pc, len, .ireturn, lk, cv) :: es, L, [.int v], h) = some (.inl (some (.int v)), h) := s_ireturn (fun q => absurd (show (0 : Nat) = 1 from q) (by decide))
theorem r311 {v : Int32} : qR PG G (311, (pc, len, .ireturn, lk, cv) :: es, L, [.int v], h) = some (.inl (some (.int v)), h) := s_ireturn (fun q => absurd (show (0 : Nat) = 1 from q) (by decide))
theorem r312 {v : Int32} : qR PG G (312, (pc, len, .ireturn, lk, cv) :: es, L, [.int v], h) = some (.inl (some (.int v)), h) := s_ireturn (fun q => absurd (show (0 : Nat) = 1 from q) (by decide))
theorem r313 {v : Int32} : qR PG G (313, (pc, len, .ireturn, lk, cv) :: es, L, [.int v], h) = some (.inl (some (.int v)), h) := s_ireturn (fun q => absurd (show (0 : Nat) = 1 from q) (by decide))
theorem r314 {v : Int32} : qR PG G (314, (pc, len, .ireturn, lk, cv) :: es, L, [.int v], h) = some (.inl (some (.int v)), h) := s_ireturn (fun q => absurd (show (0 : Nat) = 1 from q) (by decide))
theorem r315 {v : Int32} : qR PG G (315, (pc, len, .ireturn, lk, cv) :: es, L, [.int v], h) = some (.inl (some (.int v)), h) := s_ireturn (fun q => absurd (show (0 : Nat) = 1 from q) (by decide))
theorem r316 {v : Int32} : qR PG G (316, (pc, len, .ireturn, lk, cv) :: es, L, [.int v], h) = some (.inl (some (.int v)), h) := s_ireturn (fun q => absurd (show (0 : Nat) = 1 from q) (by decide))
theorem r317 {v : Int32} : qR PG G (317, (pc, len, .ireturn, lk, cv) :: es, L, [.int v], h) = some (.inl (some (.int v)), h) := s_ireturn (fun q => absurd (show (0 : Nat) = 1 from q) (by decide))
theorem r318_0 : qR PG G (318, (pc, len, .ireturn, lk, cv) :: es, L, [.int 0], h) = some (.inl (some (.int 0)), h) := s_ireturn (fun _ => Or.inl rfl)
theorem r318_1 : qR PG G (318, (pc, len, .ireturn, lk, cv) :: es, L, [.int 1], h) = some (.inl (some (.int 1)), h) := s_ireturn (fun _ => Or.inr rfl)
end RETS

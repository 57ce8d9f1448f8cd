/-- of each method: how many locals, what it returns (0 nothing, 1 int, 2 boolean, 3 long, 4 char, 5 byte) -/
def mj_li_0 : List (Nat × Nat) := [(2, 0), (1, 0), (3, 0), (3, 0), (2, 1), (4, 0), (1, 1), (1, 5), (2, 4), (1, 2), (2, 4), (2, 0), (3, 1), (2, 4), (2, 0), (1, 1), (2, 4), (1, 0), (1, 0), (1, 0), (3, 1), (3, 2), (2, 0), (3, 0), (2, 2), (3, 1), (4, 0), (6, 1), (3, 2), (1, 2), (1, 2), (7, 1), (1, 1), (3, 0), (3, 1), (2, 2), (2, 1), (5, 1), (2, 2), (3, 1), (3, 0), (3, 1), (5, 1), (3, 1), (3, 1), (1, 2), (4, 1), (3, 1), (3, 1), (3, 1), (1, 2), (9, 1), (2, 1), (3, 1), (2, 1), (9, 1), (3, 1), (1, 2), (7, 1), (4, 1), (1, 1), (6, 1), (5, 1), (6, 1), (3, 1), (3, 1), (1, 2), (4, 1), (5, 1), (2, 1), (2, 1), (4, 1), (3, 1), (3, 1), (4, 1), (7, 2), (4, 1), (2, 1), (2, 1), (9, 2)]
def mj_li_1 : List (Nat × Nat) := [(7, 2), (5, 1), (2, 0), (2, 1), (2, 2), (1, 0), (7, 0), (2, 1), (5, 2), (1, 1), (2, 2), (3, 2), (4, 1), (4, 2), (4, 2), (4, 1), (2, 0), (6, 1), (4, 1), (3, 1), (5, 1), (3, 1), (5, 2), (4, 1), (4, 1), (5, 1), (5, 1), (1, 2), (1, 2), (4, 1), (5, 1), (6, 1), (8, 0), (9, 1), (9, 0), (4, 1), (4, 2), (7, 0), (5, 0), (10, 0), (2, 1), (4, 1), (4, 0), (2, 2), (4, 1), (8, 1), (4, 1), (5, 2), (5, 0), (3, 1), (4, 1), (8, 1), (4, 1), (4, 2), (4, 0), (2, 1), (12, 1), (4, 1), (3, 1), (4, 2), (2, 2), (4, 1), (3, 2), (3, 1), (4, 0), (5, 1), (4, 1), (10, 1), (4, 1), (5, 3), (1, 1), (4, 1), (2, 2), (5, 1), (2, 1), (5, 1), (4, 1), (5, 1), (4, 1), (3, 2)]
def mj_li_2 : List (Nat × Nat) := [(4, 0), (6, 1), (4, 2), (3, 1), (1, 1), (3, 1), (4, 0), (4, 2), (4, 1), (4, 1), (7, 1), (4, 1), (3, 1), (2, 1), (2, 1), (4, 1), (3, 1), (1, 1), (2, 0), (2, 0), (1, 1), (2, 0), (3, 1), (3, 2), (3, 0), (3, 1), (4, 0), (3, 0), (8, 1), (3, 2), (3, 1), (2, 2), (1, 1), (3, 1), (4, 1), (3, 1), (4, 1), (3, 1), (4, 1), (4, 1), (4, 1), (4, 1), (3, 1), (1, 2), (6, 1), (4, 1), (2, 1), (7, 1), (3, 1), (2, 2), (1, 2), (7, 1), (6, 1), (3, 1), (7, 1), (3, 1), (4, 1), (5, 1), (2, 1), (6, 1), (4, 1), (4, 1), (3, 1), (3, 1), (2, 2), (4, 1), (6, 2), (4, 1), (10, 2), (8, 2), (4, 1), (5, 1), (4, 1), (2, 0), (1, 2), (1, 2), (1, 2), (4, 0), (2, 2), (1, 0)]
def mj_li_3 : List (Nat × Nat) := [(3, 1), (2, 0), (5, 0), (2, 0), (2, 2), (4, 0), (2, 0), (1, 1), (2, 0), (4, 1), (3, 1), (5, 1), (3, 1), (6, 2), (4, 1), (4, 1), (4, 1), (7, 1), (1, 2), (5, 1), (8, 1), (4, 2), (4, 2), (6, 0), (4, 1), (7, 2), (6, 1), (2, 2), (8, 1), (3, 0), (3, 2), (2, 2), (4, 1), (4, 2), (3, 1), (3, 2), (5, 1), (7, 1), (5, 1), (2, 1), (11, 1), (4, 1), (4, 1), (2, 2), (4, 1), (3, 2), (4, 1), (5, 1), (8, 1), (5, 1), (1, 2), (4, 1), (2, 1), (5, 1), (3, 1), (5, 1), (4, 1), (3, 2), (4, 1), (5, 1), (2, 2), (5, 1), (3, 1), (3, 1), (2, 0), (3, 1), (2, 1), (2, 1), (2, 1), (2, 1), (3, 1), (2, 1), (2, 1), (2, 1), (3, 1), (4, 1), (1, 1), (2, 0), (5, 0), (1, 1), (4, 2)]
def mj_li : List (Nat × Nat) := mj_li_0 ++ (mj_li_1 ++ (mj_li_2 ++ mj_li_3))
/-- all methods' instructions -/
def mj_kk_0 : List (List (Nat × Instr × Nat)) := [mj_k0, [], mj_k2, mj_k3, [], mj_k5, mj_k6, mj_k7, mj_k8, mj_k9, mj_k10, mj_k11, mj_k12, [], [], [], [], mj_k17, mj_k18, mj_k19, mj_k20, mj_k21, mj_k22, mj_k23, mj_k24, mj_k25, mj_k26, mj_k27, mj_k28, mj_k29, mj_k30, mj_k31, mj_k32, mj_k33, mj_k34, mj_k35, mj_k36, mj_k37, mj_k38, mj_k39]
def mj_kk_1 : List (List (Nat × Instr × Nat)) := [mj_k40, mj_k41, mj_k42, mj_k43, mj_k44, mj_k45, mj_k46, mj_k47, mj_k48, mj_k49, mj_k50, mj_k51, mj_k52, mj_k53, mj_k54, mj_k55, mj_k56, mj_k57, mj_k58, mj_k59, mj_k60, mj_k61, mj_k62, mj_k63, mj_k64, mj_k65, mj_k66, mj_k67, mj_k68, mj_k69, mj_k70, mj_k71, mj_k72, mj_k73, mj_k74, mj_k75, mj_k76, mj_k77, mj_k78, mj_k79]
def mj_kk_2 : List (List (Nat × Instr × Nat)) := [mj_k80, mj_k81, mj_k82, mj_k83, mj_k84, mj_k85, mj_k86, [], mj_k88, mj_k89, mj_k90, mj_k91, mj_k92, mj_k93, mj_k94, mj_k95, mj_k96, mj_k97, mj_k98, mj_k99, mj_k100, mj_k101, mj_k102, mj_k103, mj_k104, mj_k105, mj_k106, mj_k107, mj_k108, mj_k109, mj_k110, mj_k111, mj_k112, mj_k113, mj_k114, mj_k115, mj_k116, mj_k117, mj_k118, mj_k119]
def mj_kk_3 : List (List (Nat × Instr × Nat)) := [mj_k120, mj_k121, mj_k122, mj_k123, mj_k124, mj_k125, mj_k126, mj_k127, mj_k128, mj_k129, mj_k130, mj_k131, mj_k132, mj_k133, mj_k134, mj_k135, mj_k136, mj_k137, mj_k138, mj_k139, mj_k140, mj_k141, mj_k142, mj_k143, mj_k144, mj_k145, mj_k146, mj_k147, mj_k148, mj_k149, mj_k150, mj_k151, mj_k152, mj_k153, mj_k154, mj_k155, mj_k156, mj_k157, mj_k158, mj_k159]
def mj_kk_4 : List (List (Nat × Instr × Nat)) := [mj_k160, mj_k161, mj_k162, mj_k163, mj_k164, mj_k165, mj_k166, mj_k167, mj_k168, mj_k169, mj_k170, mj_k171, mj_k172, mj_k173, mj_k174, mj_k175, mj_k176, mj_k177, mj_k178, mj_k179, mj_k180, mj_k181, mj_k182, mj_k183, mj_k184, mj_k185, mj_k186, mj_k187, mj_k188, mj_k189, mj_k190, mj_k191, mj_k192, mj_k193, mj_k194, mj_k195, mj_k196, mj_k197, mj_k198, mj_k199]
def mj_kk_5 : List (List (Nat × Instr × Nat)) := [mj_k200, mj_k201, mj_k202, mj_k203, mj_k204, mj_k205, mj_k206, mj_k207, mj_k208, mj_k209, mj_k210, mj_k211, mj_k212, mj_k213, mj_k214, mj_k215, mj_k216, mj_k217, mj_k218, mj_k219, mj_k220, mj_k221, mj_k222, mj_k223, mj_k224, mj_k225, mj_k226, mj_k227, mj_k228, mj_k229, mj_k230, mj_k231, mj_k232, mj_k233, mj_k234, mj_k235, mj_k236, mj_k237, mj_k238, mj_k239]
def mj_kk_6 : List (List (Nat × Instr × Nat)) := [mj_k240, mj_k241, mj_k242, mj_k243, mj_k244, mj_k245, mj_k246, mj_k247, mj_k248, mj_k249, mj_k250, mj_k251, mj_k252, mj_k253, mj_k254, mj_k255, mj_k256, mj_k257, mj_k258, mj_k259, mj_k260, mj_k261, mj_k262, mj_k263, mj_k264, mj_k265, mj_k266, mj_k267, mj_k268, mj_k269, mj_k270, mj_k271, mj_k272, mj_k273, mj_k274, mj_k275, mj_k276, mj_k277, mj_k278, mj_k279]
def mj_kk_7 : List (List (Nat × Instr × Nat)) := [mj_k280, mj_k281, mj_k282, mj_k283, mj_k284, mj_k285, mj_k286, mj_k287, mj_k288, mj_k289, mj_k290, mj_k291, mj_k292, mj_k293, mj_k294, mj_k295, mj_k296, mj_k297, mj_k298, mj_k299, mj_k300, mj_k301, mj_k302, mj_k303, mj_k304, mj_k305, mj_k306, mj_k307, mj_k308, mj_k309, mj_k310, mj_k311, mj_k312, mj_k313, mj_k314, mj_k315, mj_k316, mj_k317, mj_k318, mj_k319]
def mj_kk_8 : List (List (Nat × Instr × Nat)) := [mj_k320]
def mj_kk : List (List (Nat × Instr × Nat)) := mj_kk_0 ++ (mj_kk_1 ++ (mj_kk_2 ++ (mj_kk_3 ++ (mj_kk_4 ++ (mj_kk_5 ++ (mj_kk_6 ++ (mj_kk_7 ++ (mj_kk_8))))))))
def mj_kd (y : Nat) : List (Nat × Instr × Nat) := (mj_kk.drop (y / 16 * 16)).getD (y % 16) []
theorem mj_kd_eq (y : Nat) : mj_kd y = mj_kk.getD y [] := mj_ckd mj_kk 16 y []
/-- each method of a row of lists has its instructions right -/
def mj_all : Nat → List (List (Nat × Instr × Nat)) → Prop
  | _, [] => True
  | y, k :: t => (∀ q ∈ k, decode (mj_b y) q.1 = .ok (q.2.1, q.2.2)) ∧ mj_all (y + 1) t
theorem mj_use_d {y : Nat} {b : ByteArray} {k : List (Nat × Instr × Nat)} (e : mj_b y = b) (h : k.all (fun q => decide (decode b q.1 = .ok (q.2.1, q.2.2))) = true) : ∀ q ∈ k, decode (mj_b y) q.1 = .ok (q.2.1, q.2.2) := by
  intro q hq
  rw [e]
  exact of_decide_eq_true (List.all_eq_true.mp h q hq)
theorem mj_use_n (y : Nat) : ∀ q ∈ ([] : List (Nat × Instr × Nat)), decode (mj_b y) q.1 = .ok (q.2.1, q.2.2) := fun q hq => by cases hq
theorem mj_all_0 : mj_all 0 mj_kk_0 := ⟨mj_use_d mj_e0 mj_d0, mj_use_n 1, mj_use_d mj_e2 mj_d2, mj_use_d mj_e3 mj_d3, mj_use_n 4, mj_use_d mj_e5 mj_d5, mj_use_d mj_e6 mj_d6, mj_use_d mj_e7 mj_d7, mj_use_d mj_e8 mj_d8, mj_use_d mj_e9 mj_d9, mj_use_d mj_e10 mj_d10, mj_use_d mj_e11 mj_d11, mj_use_d mj_e12 mj_d12, mj_use_n 13, mj_use_n 14, mj_use_n 15, mj_use_n 16, mj_use_d mj_e17 mj_d17, mj_use_d mj_e18 mj_d18, mj_use_d mj_e19 mj_d19, mj_use_d mj_e20 mj_d20, mj_use_d mj_e21 mj_d21, mj_use_d mj_e22 mj_d22, mj_use_d mj_e23 mj_d23, mj_use_d mj_e24 mj_d24, mj_use_d mj_e25 mj_d25, mj_use_d mj_e26 mj_d26, mj_use_d mj_e27 mj_d27, mj_use_d mj_e28 mj_d28, mj_use_d mj_e29 mj_d29, mj_use_d mj_e30 mj_d30, mj_use_d mj_e31 mj_d31, mj_use_d mj_e32 mj_d32, mj_use_d mj_e33 mj_d33, mj_use_d mj_e34 mj_d34, mj_use_d mj_e35 mj_d35, mj_use_d mj_e36 mj_d36, mj_use_d mj_e37 mj_d37, mj_use_d mj_e38 mj_d38, mj_use_d mj_e39 mj_d39, trivial⟩
theorem mj_all_1 : mj_all 40 mj_kk_1 := ⟨mj_use_d mj_e40 mj_d40, mj_use_d mj_e41 mj_d41, mj_use_d mj_e42 mj_d42, mj_use_d mj_e43 mj_d43, mj_use_d mj_e44 mj_d44, mj_use_d mj_e45 mj_d45, mj_use_d mj_e46 mj_d46, mj_use_d mj_e47 mj_d47, mj_use_d mj_e48 mj_d48, mj_use_d mj_e49 mj_d49, mj_use_d mj_e50 mj_d50, mj_use_d mj_e51 mj_d51, mj_use_d mj_e52 mj_d52, mj_use_d mj_e53 mj_d53, mj_use_d mj_e54 mj_d54, mj_use_d mj_e55 mj_d55, mj_use_d mj_e56 mj_d56, mj_use_d mj_e57 mj_d57, mj_use_d mj_e58 mj_d58, mj_use_d mj_e59 mj_d59, mj_use_d mj_e60 mj_d60, mj_use_d mj_e61 mj_d61, mj_use_d mj_e62 mj_d62, mj_use_d mj_e63 mj_d63, mj_use_d mj_e64 mj_d64, mj_use_d mj_e65 mj_d65, mj_use_d mj_e66 mj_d66, mj_use_d mj_e67 mj_d67, mj_use_d mj_e68 mj_d68, mj_use_d mj_e69 mj_d69, mj_use_d mj_e70 mj_d70, mj_use_d mj_e71 mj_d71, mj_use_d mj_e72 mj_d72, mj_use_d mj_e73 mj_d73, mj_use_d mj_e74 mj_d74, mj_use_d mj_e75 mj_d75, mj_use_d mj_e76 mj_d76, mj_use_d mj_e77 mj_d77, mj_use_d mj_e78 mj_d78, mj_use_d mj_e79 mj_d79, trivial⟩
theorem mj_all_2 : mj_all 80 mj_kk_2 := ⟨mj_use_d mj_e80 mj_d80, mj_use_d mj_e81 mj_d81, mj_use_d mj_e82 mj_d82, mj_use_d mj_e83 mj_d83, mj_use_d mj_e84 mj_d84, mj_use_d mj_e85 mj_d85, mj_use_d mj_e86 mj_d86, mj_use_n 87, mj_use_d mj_e88 mj_d88, mj_use_d mj_e89 mj_d89, mj_use_d mj_e90 mj_d90, mj_use_d mj_e91 mj_d91, mj_use_d mj_e92 mj_d92, mj_use_d mj_e93 mj_d93, mj_use_d mj_e94 mj_d94, mj_use_d mj_e95 mj_d95, mj_use_d mj_e96 mj_d96, mj_use_d mj_e97 mj_d97, mj_use_d mj_e98 mj_d98, mj_use_d mj_e99 mj_d99, mj_use_d mj_e100 mj_d100, mj_use_d mj_e101 mj_d101, mj_use_d mj_e102 mj_d102, mj_use_d mj_e103 mj_d103, mj_use_d mj_e104 mj_d104, mj_use_d mj_e105 mj_d105, mj_use_d mj_e106 mj_d106, mj_use_d mj_e107 mj_d107, mj_use_d mj_e108 mj_d108, mj_use_d mj_e109 mj_d109, mj_use_d mj_e110 mj_d110, mj_use_d mj_e111 mj_d111, mj_use_d mj_e112 mj_d112, mj_use_d mj_e113 mj_d113, mj_use_d mj_e114 mj_d114, mj_use_d mj_e115 mj_d115, mj_use_d mj_e116 mj_d116, mj_use_d mj_e117 mj_d117, mj_use_d mj_e118 mj_d118, mj_use_d mj_e119 mj_d119, trivial⟩
theorem mj_all_3 : mj_all 120 mj_kk_3 := ⟨mj_use_d mj_e120 mj_d120, mj_use_d mj_e121 mj_d121, mj_use_d mj_e122 mj_d122, mj_use_d mj_e123 mj_d123, mj_use_d mj_e124 mj_d124, mj_use_d mj_e125 mj_d125, mj_use_d mj_e126 mj_d126, mj_use_d mj_e127 mj_d127, mj_use_d mj_e128 mj_d128, mj_use_d mj_e129 mj_d129, mj_use_d mj_e130 mj_d130, mj_use_d mj_e131 mj_d131, mj_use_d mj_e132 mj_d132, mj_use_d mj_e133 mj_d133, mj_use_d mj_e134 mj_d134, mj_use_d mj_e135 mj_d135, mj_use_d mj_e136 mj_d136, mj_use_d mj_e137 mj_d137, mj_use_d mj_e138 mj_d138, mj_use_d mj_e139 mj_d139, mj_use_d mj_e140 mj_d140, mj_use_d mj_e141 mj_d141, mj_use_d mj_e142 mj_d142, mj_use_d mj_e143 mj_d143, mj_use_d mj_e144 mj_d144, mj_use_d mj_e145 mj_d145, mj_use_d mj_e146 mj_d146, mj_use_d mj_e147 mj_d147, mj_use_d mj_e148 mj_d148, mj_use_d mj_e149 mj_d149, mj_use_d mj_e150 mj_d150, mj_use_d mj_e151 mj_d151, mj_use_d mj_e152 mj_d152, mj_use_d mj_e153 mj_d153, mj_use_d mj_e154 mj_d154, mj_use_d mj_e155 mj_d155, mj_use_d mj_e156 mj_d156, mj_use_d mj_e157 mj_d157, mj_use_d mj_e158 mj_d158, mj_use_d mj_e159 mj_d159, trivial⟩
theorem mj_all_4 : mj_all 160 mj_kk_4 := ⟨mj_use_d mj_e160 mj_d160, mj_use_d mj_e161 mj_d161, mj_use_d mj_e162 mj_d162, mj_use_d mj_e163 mj_d163, mj_use_d mj_e164 mj_d164, mj_use_d mj_e165 mj_d165, mj_use_d mj_e166 mj_d166, mj_use_d mj_e167 mj_d167, mj_use_d mj_e168 mj_d168, mj_use_d mj_e169 mj_d169, mj_use_d mj_e170 mj_d170, mj_use_d mj_e171 mj_d171, mj_use_d mj_e172 mj_d172, mj_use_d mj_e173 mj_d173, mj_use_d mj_e174 mj_d174, mj_use_d mj_e175 mj_d175, mj_use_d mj_e176 mj_d176, mj_use_d mj_e177 mj_d177, mj_use_d mj_e178 mj_d178, mj_use_d mj_e179 mj_d179, mj_use_d mj_e180 mj_d180, mj_use_d mj_e181 mj_d181, mj_use_d mj_e182 mj_d182, mj_use_d mj_e183 mj_d183, mj_use_d mj_e184 mj_d184, mj_use_d mj_e185 mj_d185, mj_use_d mj_e186 mj_d186, mj_use_d mj_e187 mj_d187, mj_use_d mj_e188 mj_d188, mj_use_d mj_e189 mj_d189, mj_use_d mj_e190 mj_d190, mj_use_d mj_e191 mj_d191, mj_use_d mj_e192 mj_d192, mj_use_d mj_e193 mj_d193, mj_use_d mj_e194 mj_d194, mj_use_d mj_e195 mj_d195, mj_use_d mj_e196 mj_d196, mj_use_d mj_e197 mj_d197, mj_use_d mj_e198 mj_d198, mj_use_d mj_e199 mj_d199, trivial⟩
theorem mj_all_5 : mj_all 200 mj_kk_5 := ⟨mj_use_d mj_e200 mj_d200, mj_use_d mj_e201 mj_d201, mj_use_d mj_e202 mj_d202, mj_use_d mj_e203 mj_d203, mj_use_d mj_e204 mj_d204, mj_use_d mj_e205 mj_d205, mj_use_d mj_e206 mj_d206, mj_use_d mj_e207 mj_d207, mj_use_d mj_e208 mj_d208, mj_use_d mj_e209 mj_d209, mj_use_d mj_e210 mj_d210, mj_use_d mj_e211 mj_d211, mj_use_d mj_e212 mj_d212, mj_use_d mj_e213 mj_d213, mj_use_d mj_e214 mj_d214, mj_use_d mj_e215 mj_d215, mj_use_d mj_e216 mj_d216, mj_use_d mj_e217 mj_d217, mj_use_d mj_e218 mj_d218, mj_use_d mj_e219 mj_d219, mj_use_d mj_e220 mj_d220, mj_use_d mj_e221 mj_d221, mj_use_d mj_e222 mj_d222, mj_use_d mj_e223 mj_d223, mj_use_d mj_e224 mj_d224, mj_use_d mj_e225 mj_d225, mj_use_d mj_e226 mj_d226, mj_use_d mj_e227 mj_d227, mj_use_d mj_e228 mj_d228, mj_use_d mj_e229 mj_d229, mj_use_d mj_e230 mj_d230, mj_use_d mj_e231 mj_d231, mj_use_d mj_e232 mj_d232, mj_use_d mj_e233 mj_d233, mj_use_d mj_e234 mj_d234, mj_use_d mj_e235 mj_d235, mj_use_d mj_e236 mj_d236, mj_use_d mj_e237 mj_d237, mj_use_d mj_e238 mj_d238, mj_use_d mj_e239 mj_d239, trivial⟩
theorem mj_all_6 : mj_all 240 mj_kk_6 := ⟨mj_use_d mj_e240 mj_d240, mj_use_d mj_e241 mj_d241, mj_use_d mj_e242 mj_d242, mj_use_d mj_e243 mj_d243, mj_use_d mj_e244 mj_d244, mj_use_d mj_e245 mj_d245, mj_use_d mj_e246 mj_d246, mj_use_d mj_e247 mj_d247, mj_use_d mj_e248 mj_d248, mj_use_d mj_e249 mj_d249, mj_use_d mj_e250 mj_d250, mj_use_d mj_e251 mj_d251, mj_use_d mj_e252 mj_d252, mj_use_d mj_e253 mj_d253, mj_use_d mj_e254 mj_d254, mj_use_d mj_e255 mj_d255, mj_use_d mj_e256 mj_d256, mj_use_d mj_e257 mj_d257, mj_use_d mj_e258 mj_d258, mj_use_d mj_e259 mj_d259, mj_use_d mj_e260 mj_d260, mj_use_d mj_e261 mj_d261, mj_use_d mj_e262 mj_d262, mj_use_d mj_e263 mj_d263, mj_use_d mj_e264 mj_d264, mj_use_d mj_e265 mj_d265, mj_use_d mj_e266 mj_d266, mj_use_d mj_e267 mj_d267, mj_use_d mj_e268 mj_d268, mj_use_d mj_e269 mj_d269, mj_use_d mj_e270 mj_d270, mj_use_d mj_e271 mj_d271, mj_use_d mj_e272 mj_d272, mj_use_d mj_e273 mj_d273, mj_use_d mj_e274 mj_d274, mj_use_d mj_e275 mj_d275, mj_use_d mj_e276 mj_d276, mj_use_d mj_e277 mj_d277, mj_use_d mj_e278 mj_d278, mj_use_d mj_e279 mj_d279, trivial⟩
theorem mj_all_7 : mj_all 280 mj_kk_7 := ⟨mj_use_d mj_e280 mj_d280, mj_use_d mj_e281 mj_d281, mj_use_d mj_e282 mj_d282, mj_use_d mj_e283 mj_d283, mj_use_d mj_e284 mj_d284, mj_use_d mj_e285 mj_d285, mj_use_d mj_e286 mj_d286, mj_use_d mj_e287 mj_d287, mj_use_d mj_e288 mj_d288, mj_use_d mj_e289 mj_d289, mj_use_d mj_e290 mj_d290, mj_use_d mj_e291 mj_d291, mj_use_d mj_e292 mj_d292, mj_use_d mj_e293 mj_d293, mj_use_d mj_e294 mj_d294, mj_use_d mj_e295 mj_d295, mj_use_d mj_e296 mj_d296, mj_use_d mj_e297 mj_d297, mj_use_d mj_e298 mj_d298, mj_use_d mj_e299 mj_d299, mj_use_d mj_e300 mj_d300, mj_use_d mj_e301 mj_d301, mj_use_d mj_e302 mj_d302, mj_use_d mj_e303 mj_d303, mj_use_d mj_e304 mj_d304, mj_use_d mj_e305 mj_d305, mj_use_d mj_e306 mj_d306, mj_use_d mj_e307 mj_d307, mj_use_d mj_e308 mj_d308, mj_use_d mj_e309 mj_d309, mj_use_d mj_e310 mj_d310, mj_use_d mj_e311 mj_d311, mj_use_d mj_e312 mj_d312, mj_use_d mj_e313 mj_d313, mj_use_d mj_e314 mj_d314, mj_use_d mj_e315 mj_d315, mj_use_d mj_e316 mj_d316, mj_use_d mj_e317 mj_d317, mj_use_d mj_e318 mj_d318, mj_use_d mj_e319 mj_d319, trivial⟩
theorem mj_all_8 : mj_all 320 mj_kk_8 := ⟨mj_use_d mj_e320 mj_d320, trivial⟩
theorem mj_all_app : ∀ (a b : List (List (Nat × Instr × Nat))) (y : Nat), mj_all y a → mj_all (y + a.length) b → mj_all y (a ++ b)
  | [], b, y, _, h => h
  | k :: t, b, y, h1, h2 => ⟨h1.1, mj_all_app t b (y + 1) h1.2 (by rw [show y + 1 + t.length = y + (k :: t).length by simp; omega]; exact h2)⟩
theorem mj_all_get : ∀ (L : List (List (Nat × Instr × Nat))) (y i : Nat) (k : List (Nat × Instr × Nat)), mj_all y L → L[i]? = some k → ∀ q ∈ k, decode (mj_b (y + i)) q.1 = .ok (q.2.1, q.2.2)
  | [], y, i, k, _, h => by simp at h
  | a :: t, y, 0, k, h1, h => by
    rw [List.getElem?_cons_zero] at h
    cases h
    exact h1.1
  | a :: t, y, i + 1, k, h1, h => by
    rw [List.getElem?_cons_succ] at h
    have := mj_all_get t (y + 1) i k h1.2 h
    rw [show y + 1 + i = y + (i + 1) by omega] at this
    exact this
theorem mj_all_kk : mj_all 0 mj_kk := by
  unfold mj_kk
  exact mj_all_app _ _ 0 mj_all_0 (mj_all_app _ _ _ mj_all_1 (mj_all_app _ _ _ mj_all_2 (mj_all_app _ _ _ mj_all_3 (mj_all_app _ _ _ mj_all_4 (mj_all_app _ _ _ mj_all_5 (mj_all_app _ _ _ mj_all_6 (mj_all_app _ _ _ mj_all_7 mj_all_8)))))))
theorem mj_kd_ok (y : Nat) : ∀ q ∈ mj_kd y, decode (mj_b y) q.1 = .ok (q.2.1, q.2.2) := by
  intro q hq
  rw [mj_kd_eq] at hq
  rw [List.getD_eq_getElem?_getD] at hq
  cases h : mj_kk[y]? with
  | none => rw [h] at hq; cases hq
  | some k =>
    rw [h] at hq
    have := mj_all_get mj_kk 0 y k mj_all_kk h q hq
    rwa [Nat.zero_add] at this
def mj_isw : Instr → Bool
  | .tableswitch .. | .lookupswitch .. => true
  | _ => false
/-- how long an instruction is (switches apart) -/
def mj_len : Instr → Nat
  | .bipush _ | .ldc _ | .iload _ | .lload _ | .aload _ | .istore _ | .lstore _ | .astore _ | .newarray _ => 2
  | .sipush _ | .ldc_w _ | .ldc2_w _ | .iinc _ _ | .ifCond _ _ | .if_icmp _ _ | .goto _ | .getfield _ | .putfield _ | .getstatic _ | .new _ | .invokevirtual _ | .invokespecial _ | .invokestatic _ => 3
  | _ => 1
/-- one instruction behind the other -/
def mj_seq : List (Nat × Instr × Nat) → Bool
  | [] => true
  | (pc, i, n) :: t => (match t with | [] => true | (pc2, _) :: _ => pc2 == pc + n) && (mj_isw i || n == mj_len i) && mj_seq t
def mj_hd : List (Nat × Instr × Nat) → Nat
  | [] => 0
  | (pc, _) :: _ => pc
set_option maxRecDepth 100000 in
theorem mj_seq_all : mj_kk.all (fun k => mj_seq k && mj_hd k == 0) = true := by decide +kernel
def mj_cok (y : Nat) : List (Nat × Instr × Nat) → Prop
  | [] => True
  | (pc, i, n) :: t => decode (mj_b y) pc = .ok (i, n) ∧ (t ≠ [] → mj_hd t = pc + n) ∧ (mj_isw i = true ∨ n = mj_len i) ∧ mj_cok y t
theorem mj_cok_of (y : Nat) : ∀ k : List (Nat × Instr × Nat), (∀ q ∈ k, decode (mj_b y) q.1 = .ok (q.2.1, q.2.2)) → mj_seq k = true → mj_cok y k
  | [], _, _ => trivial
  | (pc, i, n) :: t, h1, h2 => by
    simp only [mj_seq, Bool.and_eq_true, Bool.or_eq_true, beq_iff_eq] at h2
    obtain ⟨⟨h3, h4⟩, h5⟩ := h2
    have a : decode (mj_b y) pc = .ok (i, n) := h1 (pc, i, n) List.mem_cons_self
    have b : t ≠ [] → mj_hd t = pc + n := by
      intro ht
      cases t with
      | nil => exact absurd rfl ht
      | cons q t => exact by simpa [mj_hd] using h3
    have c : mj_cok y t := mj_cok_of y t (fun q hq => h1 q (List.mem_cons_of_mem _ hq)) h5
    exact ⟨a, b, h4, c⟩
theorem mj_kd_cok (y : Nat) : mj_cok y (mj_kd y) ∧ mj_hd (mj_kd y) = 0 := by
  have h := mj_kd_ok y
  rw [mj_kd_eq] at h ⊢
  rw [List.getD_eq_getElem?_getD] at h ⊢
  cases hk : mj_kk[y]? with
  | none => exact ⟨trivial, rfl⟩
  | some k =>
    rw [hk] at h
    have h2 := List.all_eq_true.mp mj_seq_all k (List.mem_of_getElem? hk)
    simp only [Bool.and_eq_true, beq_iff_eq] at h2
    exact ⟨mj_cok_of y k h h2.1, h2.2⟩
/-- the instructions from a place on -/
def mj_jmp (y pc : Nat) : List (Nat × Instr × Nat) := (mj_kd y).dropWhile (fun q => q.1 != pc)
theorem mj_cok_drop (y : Nat) (p : Nat × Instr × Nat → Bool) : ∀ k : List (Nat × Instr × Nat), mj_cok y k → mj_cok y (k.dropWhile p)
  | [], _ => trivial
  | q :: t, h => by
    rw [List.dropWhile_cons]
    split
    · exact mj_cok_drop y p t h.2.2.2
    · exact h
theorem mj_hd_drop (pc : Nat) : ∀ k : List (Nat × Instr × Nat), k.dropWhile (fun q => q.1 != pc) ≠ [] → mj_hd (k.dropWhile (fun q => q.1 != pc)) = pc
  | [], h => absurd rfl h
  | q :: t, h => by
    rw [List.dropWhile_cons] at h ⊢
    by_cases e : q.1 = pc
    · have e1 : (q.1 != pc) = false := by simp [e]
      rw [if_neg (by rw [e1]; decide)]
      exact e
    · have e1 : (q.1 != pc) = true := by simp [e]
      rw [if_pos e1] at h ⊢
      exact mj_hd_drop pc t h
theorem mj_jmp_cok (y pc : Nat) : mj_cok y (mj_jmp y pc) ∧ (mj_jmp y pc ≠ [] → mj_hd (mj_jmp y pc) = pc) := ⟨mj_cok_drop y _ _ (mj_kd_cok y).1, mj_hd_drop pc _⟩
/-! locals and returns, from a table -/
def mj_ty : Nat → Option FieldType
  | 1 => some .int
  | 2 => some .boolean
  | 3 => some .long
  | 4 => some .char
  | 5 => some .byte
  | _ => none
def mj_lx (y : Nat) : Nat := ((mj_li.drop (y / 16 * 16)).getD (y % 16) (0, 0)).1
def mj_rx (y : Nat) : Option FieldType := mj_ty ((mj_li.drop (y / 16 * 16)).getD (y % 16) (0, 0)).2
def mj_okli (y : Nat) : Bool := decide (mj_l y = mj_lx y) && decide (mj_r y = mj_rx y)
set_option maxRecDepth 100000 in
theorem mj_chk_li0 : ((List.range 320).take 160).all mj_okli = true := by decide +kernel
set_option maxRecDepth 100000 in
theorem mj_chk_li1 : ((List.range 320).drop 160).all mj_okli = true := by decide +kernel
theorem mj_li_law : mj_l mj_lawNo = mj_lx mj_lawNo ∧ mj_r mj_lawNo = mj_rx mj_lawNo := by decide +kernel
theorem mj_li_use {y : Nat} (hy : y < 320) : mj_l y = mj_lx y ∧ mj_r y = mj_rx y := by
  have h := List.all_eq_true.mp (mj_all_step mj_okli (List.range 320) 0 160 mj_chk_li0 mj_chk_li1) y (by simpa using hy)
  simpa only [mj_okli, Bool.and_eq_true, decide_eq_true_eq] using h
/-! the small machine's rules -/
section RULES
variable {E : mj_E} {d mc ms y pc n : Nat} {lv : List (Nat × Value)} {st : List Value} {ws : va_W} {i : Instr} {Q : Option Value → va_W → Prop}
theorem MJ.nx (hd : decode (mj_b y) pc = .ok (i, n)) {pc1 : Nat} {lv1 : List (Nat × Value)} {st1 : List Value} {ws1 : va_W} (hI : mj_I E d y pc lv st ws (mj_nx pc1 lv1 st1 ws1) n i) (h : MJ E d mc ms (y, pc1, lv1, st1, ws1) Q) : MJ E d mc ms (y, pc, lv, st, ws) Q :=
  MJ.step ⟨_, ⟨i, n, hd, hI⟩, h⟩
theorem MJ.rt (hd : decode (mj_b y) pc = .ok (i, n)) {v : Option Value} (hI : mj_I E d y pc lv st ws (.inr (.inr (.inl v))) n i) (h : Q v ws) : MJ E d mc ms (y, pc, lv, st, ws) Q :=
  MJ.step ⟨_, ⟨i, n, hd, hI⟩, h⟩
theorem MJ.cl (hd : decode (mj_b y) pc = .ok (i, n)) {y2 : Nat} {as rest : List Value} (hI : mj_I E d y pc lv st ws (.inr (.inl (y2, as, rest))) n i) {d2 mc2 ms2 mc3 ms3 : Nat} {R : Option Value → va_W → Prop} (e1 : d = d2 + 1) (e2 : mc = mc2 + mc3) (e3 : ms = ms2 + ms3)
    (h : MJ E d2 mc2 ms2 (mj_in0 y2 as ws) R) (h2 : ∀ v ws1, R v ws1 → MJ E d mc3 ms3 (y, pc + 3, lv, v.toList ++ rest, ws1) Q) : MJ E d mc ms (y, pc, lv, st, ws) Q :=
  MJ.step ⟨_, ⟨i, n, hd, hI⟩, d2, mc2, ms2, mc3, ms3, R, e1, e2, e3, h, h2⟩
theorem MJ.al (hd : decode (mj_b y) pc = .ok (i, n)) {e : va_E} {w pc1 : Nat} {rest : List Value} (hI : mj_I E d y pc lv st ws (.inr (.inr (.inr (e, w, pc1, rest)))) n i) {mc2 ms2 : Nat} (e1 : mc = mc2 + 1) (e2 : ms = ms2 + w)
    (h : ∀ q : Nat, (∀ z ∈ ws, z.1 ≠ q) → MJ E d mc2 ms2 (y, pc1, lv, .ref q :: rest, ws ++ [(q, e)]) Q) : MJ E d mc ms (y, pc, lv, st, ws) Q :=
  MJ.step ⟨_, ⟨i, n, hd, hI⟩, mc2, ms2, e1, e2, h⟩
end RULES
theorem mj_I.deep {E : mj_E} {d d2 y pc n : Nat} {lv : List (Nat × Value)} {st : List Value} {ws : va_W} {r : mj_R} (hd : d ≤ d2) : ∀ i : Instr, mj_I E d y pc lv st ws r n i → mj_I E d2 y pc lv st ws r n i := by
  intro i h
  cases i
  case invokestatic ix =>
    obtain ⟨h0, h | h | h | h⟩ := h
    · exact ⟨h0, Or.inl h⟩
    · obtain ⟨pl, z0, sp, dp, nn, a0, a1, q0, q1, n0, n1, f, g, rest, h1, h2, h3⟩ := h
      exact ⟨h0, Or.inr (Or.inl ⟨pl, z0, sp, dp, nn, a0, a1, q0, q1, n0, n1, f, g, rest, h1, Nat.le_trans h2 hd, h3⟩)⟩
    · obtain ⟨pl, z0, a, b, rest, h1, h2, h3⟩ := h
      exact ⟨h0, Or.inr (Or.inr (Or.inl ⟨pl, z0, a, b, rest, h1, Nat.le_trans h2 hd, h3⟩))⟩
    · obtain ⟨pl, z0, a, b, rest, h1, h2, h3⟩ := h
      exact ⟨h0, Or.inr (Or.inr (Or.inr ⟨pl, z0, a, b, rest, h1, Nat.le_trans h2 hd, h3⟩))⟩
  case invokespecial ix =>
    obtain ⟨h0, h | h⟩ := h
    · exact ⟨h0, Or.inl h⟩
    · obtain ⟨pl, z0, a, rest, h1, h2, h3⟩ := h
      exact ⟨h0, Or.inr ⟨pl, z0, a, rest, h1, Nat.le_trans h2 hd, h3⟩⟩
  all_goals exact h
/-- more room, a weaker end -/
theorem MJ.weaken {E : mj_E} {d mc ms d2 mc2 ms2 : Nat} {cf : mj_C} {Q Q2 : Option Value → va_W → Prop} (h : MJ E d mc ms cf Q) (h1 : d ≤ d2) (h2 : mc ≤ mc2) (h3 : ms ≤ ms2) (hQ : ∀ v ws, Q v ws → Q2 v ws) : MJ E d2 mc2 ms2 cf Q2 := by
  have key := h (fun d mc ms cf Q => ∀ (d2 mc2 ms2 : Nat) (Q2 : Option Value → va_W → Prop), d ≤ d2 → mc ≤ mc2 → ms ≤ ms2 → (∀ v ws, Q v ws → Q2 v ws) → MJ E d2 mc2 ms2 cf Q2) ?_
  · exact key d2 mc2 ms2 Q2 h1 h2 h3 hQ
  · intro d mc ms cf Q ⟨r, ⟨i, n, hd, hI⟩, hr⟩ d2 mc2 ms2 Q2 h1 h2 h3 hQ
    have hI := mj_I.deep h1 i hI
    refine MJ.step ⟨r, ⟨i, n, hd, hI⟩, ?_⟩
    rcases r with ⟨pc, lv, st, ws⟩ | ⟨y2, as, rest⟩ | v | ⟨e, w, pc, rest⟩
    · exact hr _ _ _ _ h1 h2 h3 hQ
    · obtain ⟨da, ma, sa, mb, sb, R, e1, e2, e3, g1, g2⟩ := hr
      exact ⟨d2 - 1, ma, sa, mc2 - ma, ms2 - sa, R, by omega, by omega, by omega, g1 _ _ _ _ (by omega) (Nat.le_refl _) (Nat.le_refl _) (fun _ _ z => z), fun v ws1 hv => g2 v ws1 hv _ _ _ _ h1 (by omega) (by omega) hQ⟩
    · exact hQ _ _ hr
    · obtain ⟨ma, sa, e1, e2, g1⟩ := hr
      exact ⟨mc2 - 1, ms2 - w, by omega, by omega, fun q hq => g1 q hq _ _ _ _ h1 (by omega) (by omega) hQ⟩

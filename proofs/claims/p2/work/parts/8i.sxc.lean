/-! SX: contracts, by program -/
section SXC
/-- LotBeliefsModel.whoHere -/
def ct1824 : sxCt := (234, 30, (6, [(1, .ofNat 0, .ofNat 200), (2, .ofNat 0, .ofNat 200), (3, .ofNat 0, .ofNat 220), (4, .ofNat 0, .ofNat 10), (5, .ofNat 0, .ofNat 200)], [(5, 2, .ofNat 0)], [(0, .inl 78)], [], [(78, (0, .ofNat 8), .inr (false, (0, .ofNat 0))), (78, (0, .ofNat 5), .inr (false, (0, .ofNat 0))), (78, (0, .ofNat 2), .inr (false, (1, .ofNat 0))), (78, (0, .ofNat 4), .inr (false, (2, .ofNat 0))), (78, (0, .ofNat 28), .inr (false, (3, .ofNat 0))), (78, (0, .ofNat 26), .inr (false, (4, .ofNat 0))), (579, (0, .ofNat 1), .inr (false, (0, .ofNat 1))), (579, (0, .ofNat 4), .inr (false, (5, .ofNat 0)))], []), [(78, 5), (78, 6), (78, 7), (78, 9), (78, 27), (78, 29), (579, 1), (579, 2), (579, 5), (107000116, 0), (339000538, 0)], [
  (11, [(1, .ofNat 0, .ofNat 200), (2, .ofNat 0, .ofNat 200), (3, .ofNat 0, .ofNat 220), (4, .ofNat 0, .ofNat 10), (5, .ofNat 0, .ofNat 200), (6, .ofNat 0, .ofNat 200), (7, .ofNat 1, .ofNat 3), (8, .ofNat 0, .ofNat 10), (9, .ofNat 0, .ofNat 220), (10, .ofNat 0, .ofNat 200)], [(2, 6, .ofNat 0), (3, 9, .ofNat 199), (4, 8, .ofNat 0), (5, 6, .ofNat 0), (5, 10, .ofNat 0), (7, 8, .ofNat 2), (8, 4, .ofNat 1), (10, 6, .ofNat 0), (5, 2, .ofNat 0)], [], [], [(78, (0, .ofNat 2), .inr (false, (1, .ofNat 0))), (78, (0, .ofNat 4), .inr (false, (6, .ofNat 0))), (78, (0, .ofNat 5), .inr (false, (7, .ofNat 0))), (78, (0, .ofNat 8), .inr (false, (0, .ofNat 0))), (78, (0, .ofNat 26), .inr (false, (8, .ofNat 0))), (78, (0, .ofNat 28), .inr (false, (9, .ofNat 0))), (579, (0, .ofNat 1), .inr (false, (0, .ofNat 1))), (579, (0, .ofNat 4), .inr (false, (10, .ofNat 0)))], []), 
  (10, [(1, .ofNat 5, .ofNat 200), (2, .ofNat 0, .ofNat 195), (3, .ofNat 0, .ofNat 199), (4, .ofNat 0, .ofNat 9), (5, .ofNat 0, .ofNat 195), (6, .ofNat 5, .ofNat 200), (7, .ofNat 1, .ofNat 10), (8, .ofNat 1, .ofNat 200), (9, .ofNat 2, .ofNat 200)], [(2, 6, .negSucc 4), (5, 6, .negSucc 4), (5, 9, .negSucc 1), (6, 1, .ofNat 0), (9, 1, .ofNat 0), (9, 6, .ofNat 0), (5, 2, .ofNat 0)], [], [], [(78, (0, .ofNat 2), .inr (false, (1, .ofNat 0))), (78, (0, .ofNat 4), .inr (false, (6, .ofNat 0))), (78, (0, .ofNat 5), .inr (false, (0, .ofNat 0))), (78, (0, .ofNat 8), .inr (false, (0, .ofNat 0))), (78, (0, .ofNat 26), .inr (false, (7, .ofNat 0))), (78, (0, .ofNat 28), .inr (false, (8, .ofNat 0))), (579, (0, .ofNat 1), .inr (false, (0, .ofNat 1))), (579, (0, .ofNat 4), .inr (false, (9, .ofNat 0)))], [])], [], 0, 0)
def cu1824 : List sxCu := []
set_option maxRecDepth 1000000 in
theorem cv1824 {gh : sxGh} (hg : sxGd sxKw gh) : sxCtV sxKw gh ct1824 := sxMeB_ok (cts := [ct1718, ct1720, ct1822, ct1823, ct1721, ct1821]) (cuts := cu1824) (sp := [(134, 579, 0)]) 3988 (by decide +kernel) hg (by decide) (by decide) (List.forall_mem_cons.mpr ⟨cv1718 hg, (List.forall_mem_cons.mpr ⟨cv1720 hg, (List.forall_mem_cons.mpr ⟨cv1822 hg, (List.forall_mem_cons.mpr ⟨cv1823 hg, (List.forall_mem_cons.mpr ⟨cv1721 hg, (List.forall_mem_cons.mpr ⟨cv1821 hg, (fun _ h => absurd h List.not_mem_nil)⟩)⟩)⟩)⟩)⟩)⟩)
/-- LotBeliefs.Tape.isWord -/
def ct1826 : sxCt := (85, 0, (1, [], [], [(0, .inl 1), (1, .inl 1000002)], [], [], []), [], [
  (1, [], [], [], [.inr (false, (0, .ofNat 0))], [], []), 
  (1, [], [], [], [.inr (false, (0, .ofNat 1))], [], [])], [], 0, 0)
def cu1826 : List sxCu := []
set_option maxRecDepth 1000000 in
theorem cv1826 {gh : sxGh} (hg : sxGd sxKw gh) : sxCtV sxKw gh ct1826 := sxMeB_ok (cts := []) (cuts := cu1826) (sp := []) 174 (by decide +kernel) hg (by decide) (by decide) (fun _ h => absurd h List.not_mem_nil)
/-- LotBeliefs.Sentence.readNot -/
def ct1827 : sxCt := (44, 2, (1, [], [], [(0, .inl 1), (1, .inl 11)], [], [(1, (0, .ofNat 7), .inr (false, (0, .ofNat 6)))], []), [(1, 4), (1, 9), (1, 10)], [
  (1, [], [], [], [.inr (true, (0, .ofNat 0))], [(1, (0, .ofNat 3), .inr (false, (0, .ofNat 4))), (1, (0, .ofNat 7), .inr (false, (0, .ofNat 6)))], [])], [], 0, 0)
def cu1827 : List sxCu := []
set_option maxRecDepth 1000000 in
theorem cv1827 {gh : sxGh} (hg : sxGd sxKw gh) : sxCtV sxKw gh ct1827 := sxMeB_ok (cts := []) (cuts := cu1827) (sp := []) 95 (by decide +kernel) hg (by decide) (by decide) (fun _ h => absurd h List.not_mem_nil)
/-- LotBeliefs.Tape.isWord -/
def ct1828 : sxCt := (85, 0, (1, [], [], [(0, .inl 1), (1, .inl 1000003)], [], [], []), [], [
  (1, [], [], [], [.inr (false, (0, .ofNat 0))], [], []), 
  (1, [], [], [], [.inr (false, (0, .ofNat 1))], [], [])], [], 0, 0)
def cu1828 : List sxCu := []
set_option maxRecDepth 1000000 in
theorem cv1828 {gh : sxGh} (hg : sxGd sxKw gh) : sxCtV sxKw gh ct1828 := sxMeB_ok (cts := []) (cuts := cu1828) (sp := []) 144 (by decide +kernel) hg (by decide) (by decide) (fun _ h => absurd h List.not_mem_nil)
/-- LotBeliefs.Sentence.readIf -/
def ct1829 : sxCt := (45, 2, (1, [], [], [(0, .inl 1), (1, .inl 11)], [], [(1, (0, .ofNat 7), .inr (false, (0, .ofNat 6)))], []), [(1, 4), (1, 9), (1, 10)], [
  (1, [], [], [], [.inr (true, (0, .ofNat 0))], [(1, (0, .ofNat 3), .inr (false, (0, .ofNat 4))), (1, (0, .ofNat 7), .inr (false, (0, .ofNat 6)))], [])], [], 0, 0)
def cu1829 : List sxCu := []
set_option maxRecDepth 1000000 in
theorem cv1829 {gh : sxGh} (hg : sxGd sxKw gh) : sxCtV sxKw gh ct1829 := sxMeB_ok (cts := []) (cuts := cu1829) (sp := []) 95 (by decide +kernel) hg (by decide) (by decide) (fun _ h => absurd h List.not_mem_nil)
/-- LotBeliefs.Sentence.readBrackets -/
def ct1830 : sxCt := (46, 2, (1, [], [], [(0, .inl 1), (1, .inl 11)], [], [(1, (0, .ofNat 7), .inr (false, (0, .ofNat 6)))], []), [(1, 4), (1, 9), (1, 10)], [
  (1, [], [], [], [.inr (true, (0, .ofNat 0))], [(1, (0, .ofNat 3), .inr (false, (0, .ofNat 4))), (1, (0, .ofNat 7), .inr (false, (0, .ofNat 6)))], [])], [], 0, 0)
def cu1830 : List sxCu := []
set_option maxRecDepth 1000000 in
theorem cv1830 {gh : sxGh} (hg : sxGd sxKw gh) : sxCtV sxKw gh ct1830 := sxMeB_ok (cts := []) (cuts := cu1830) (sp := []) 95 (by decide +kernel) hg (by decide) (by decide) (fun _ h => absurd h List.not_mem_nil)
/-- LotBeliefs.Sentence.readAtom -/
def ct1831 : sxCt := (47, 1, (1, [], [], [(0, .inl 1), (1, .inl 11)], [], [(1, (0, .ofNat 7), .inr (false, (0, .ofNat 6)))], []), [(1, 4), (1, 5), (1, 6), (1, 7), (1, 9), (1, 10)], [
  (3, [(1, .negSucc 9223372036854775807, .ofNat 9223372036854775807), (2, .ofNat 0, .ofNat 4)], [], [], [.inr (true, (1, .ofNat 0))], [(1, (0, .ofNat 3), .inr (false, (2, .ofNat 0))), (1, (0, .ofNat 7), .inr (false, (0, .ofNat 6)))], [])], [], 0, 0)
def cu1831 : List sxCu := []
set_option maxRecDepth 1000000 in
theorem cv1831 {gh : sxGh} (hg : sxGd sxKw gh) : sxCtV sxKw gh ct1831 := sxMeB_ok (cts := [ct1596]) (cuts := cu1831) (sp := []) 222 (by decide +kernel) hg (by decide) (by decide) (List.forall_mem_cons.mpr ⟨cv1596 hg, (fun _ h => absurd h List.not_mem_nil)⟩)
/-- LotBeliefs.Sentence.readPart -/
def ct1832 : sxCt := (43, 3, (1, [], [], [(0, .inl 1), (1, .inl 11)], [], [(1, (0, .ofNat 7), .inr (false, (0, .ofNat 6)))], []), [(1, 4), (1, 5), (1, 6), (1, 7), (1, 9), (1, 10)], [
  (3, [(1, .negSucc 9223372036854775807, .ofNat 9223372036854775807), (2, .ofNat 0, .ofNat 4)], [], [], [.inr (true, (1, .ofNat 0))], [(1, (0, .ofNat 3), .inr (false, (2, .ofNat 0))), (1, (0, .ofNat 7), .inr (false, (0, .ofNat 6)))], [])], [], 0, 0)
def cu1832 : List sxCu := []
set_option maxRecDepth 1000000 in
theorem cv1832 {gh : sxGh} (hg : sxGd sxKw gh) : sxCtV sxKw gh ct1832 := sxMeB_ok (cts := [ct1827, ct1829, ct1830, ct1831, ct1826, ct1828]) (cuts := cu1832) (sp := []) 118 (by decide +kernel) hg (by decide) (by decide) (List.forall_mem_cons.mpr ⟨cv1827 hg, (List.forall_mem_cons.mpr ⟨cv1829 hg, (List.forall_mem_cons.mpr ⟨cv1830 hg, (List.forall_mem_cons.mpr ⟨cv1831 hg, (List.forall_mem_cons.mpr ⟨cv1826 hg, (List.forall_mem_cons.mpr ⟨cv1828 hg, (fun _ h => absurd h List.not_mem_nil)⟩)⟩)⟩)⟩)⟩)⟩)
/-- LotBeliefs.Sentence.readNot -/
def ct1833 : sxCt := (44, 4, (1, [], [], [(0, .inl 1), (1, .inl 11)], [], [(1, (0, .ofNat 7), .inr (false, (0, .ofNat 5)))], []), [(1, 4), (1, 5), (1, 6), (1, 7), (1, 8), (1, 9), (1, 10)], [
  (3, [(1, .negSucc 9223372036854775807, .ofNat 9223372036854775807), (2, .ofNat 0, .ofNat 4)], [], [], [.inr (true, (1, .ofNat 0))], [(1, (0, .ofNat 3), .inr (false, (2, .ofNat 0))), (1, (0, .ofNat 7), .inr (false, (0, .ofNat 5)))], [])], [], 0, 0)
def cu1833 : List sxCu := []
set_option maxRecDepth 1000000 in
theorem cv1833 {gh : sxGh} (hg : sxGd sxKw gh) : sxCtV sxKw gh ct1833 := sxMeB_ok (cts := [ct1832, ct1596]) (cuts := cu1833) (sp := []) 99 (by decide +kernel) hg (by decide) (by decide) (List.forall_mem_cons.mpr ⟨cv1832 hg, (List.forall_mem_cons.mpr ⟨cv1596 hg, (fun _ h => absurd h List.not_mem_nil)⟩)⟩)
/-- LotBeliefs.Tape.isWord -/
def ct1834 : sxCt := (85, 0, (1, [], [], [(0, .inl 1), (1, .inl 1000004)], [], [], []), [], [
  (1, [], [], [], [.inr (false, (0, .ofNat 0))], [], []), 
  (1, [], [], [], [.inr (false, (0, .ofNat 1))], [], [])], [], 0, 0)
def cu1834 : List sxCu := []
set_option maxRecDepth 1000000 in
theorem cv1834 {gh : sxGh} (hg : sxGd sxKw gh) : sxCtV sxKw gh ct1834 := sxMeB_ok (cts := []) (cuts := cu1834) (sp := []) 204 (by decide +kernel) hg (by decide) (by decide) (fun _ h => absurd h List.not_mem_nil)
/-- LotBeliefs.Sentence.readIf -/
def ct1835 : sxCt := (45, 4, (1, [], [], [(0, .inl 1), (1, .inl 11)], [], [(1, (0, .ofNat 7), .inr (false, (0, .ofNat 5)))], []), [(1, 4), (1, 5), (1, 6), (1, 7), (1, 8), (1, 9), (1, 10)], [
  (3, [(1, .negSucc 9223372036854775807, .ofNat 9223372036854775807), (2, .ofNat 0, .ofNat 4)], [], [], [.inr (true, (1, .ofNat 0))], [(1, (0, .ofNat 3), .inr (false, (2, .ofNat 0))), (1, (0, .ofNat 7), .inr (false, (0, .ofNat 5)))], [])], [], 0, 0)
def cu1835 : List sxCu := []
set_option maxRecDepth 1000000 in
theorem cv1835 {gh : sxGh} (hg : sxGd sxKw gh) : sxCtV sxKw gh ct1835 := sxMeB_ok (cts := [ct1832, ct1596, ct1834]) (cuts := cu1835) (sp := []) 177 (by decide +kernel) hg (by decide) (by decide) (List.forall_mem_cons.mpr ⟨cv1832 hg, (List.forall_mem_cons.mpr ⟨cv1596 hg, (List.forall_mem_cons.mpr ⟨cv1834 hg, (fun _ h => absurd h List.not_mem_nil)⟩)⟩)⟩)
/-- LotBeliefs.Tape.isWord -/
def ct1836 : sxCt := (85, 0, (1, [], [], [(0, .inl 1), (1, .inl 1000005)], [], [], []), [], [
  (1, [], [], [], [.inr (false, (0, .ofNat 0))], [], []), 
  (1, [], [], [], [.inr (false, (0, .ofNat 1))], [], [])], [], 0, 0)
def cu1836 : List sxCu := []
set_option maxRecDepth 1000000 in
theorem cv1836 {gh : sxGh} (hg : sxGd sxKw gh) : sxCtV sxKw gh ct1836 := sxMeB_ok (cts := []) (cuts := cu1836) (sp := []) 174 (by decide +kernel) hg (by decide) (by decide) (fun _ h => absurd h List.not_mem_nil)
/-- LotBeliefs.Sentence.readEach -/
def ct1837 : sxCt := (42, 4, (1, [], [], [(0, .inl 1), (1, .inl 11)], [], [(1, (0, .ofNat 7), .inr (false, (0, .ofNat 6)))], []), [(1, 4), (1, 5), (1, 6), (1, 7), (1, 9), (1, 10)], [
  (3, [(1, .negSucc 9223372036854775807, .ofNat 9223372036854775807), (2, .ofNat 0, .ofNat 4)], [], [], [.inr (true, (1, .ofNat 0))], [(1, (0, .ofNat 3), .inr (false, (2, .ofNat 0))), (1, (0, .ofNat 7), .inr (false, (0, .ofNat 6)))], [])], [], 0, 0)
def cu1837 : List sxCu := [
  (9, (4, [(1, .negSucc 9223372036854775807, .ofNat 9223372036854775807), (2, .ofNat 0, .ofNat 600), (3, .ofNat 0, .ofNat 4)], [], [(0, .inl 1), (1, .inl 11), (2, .inr (true, (1, .ofNat 0))), (4, .inr (false, (2, .ofNat 0)))], [], [(1, (0, .ofNat 3), .inr (false, (3, .ofNat 0))), (1, (0, .ofNat 7), .inr (false, (0, .ofNat 6)))], []), ((0, 2, .ofNat 600), (0, 0, .ofNat 0), (0, 0, .ofNat 0)), 0, 0)]
set_option maxRecDepth 1000000 in
theorem cv1837 {gh : sxGh} (hg : sxGd sxKw gh) : sxCtV sxKw gh ct1837 := sxMeB_ok (cts := [ct1832, ct1596, ct1836]) (cuts := cu1837) (sp := []) 92 (by decide +kernel) hg (by decide) (by decide) (List.forall_mem_cons.mpr ⟨cv1832 hg, (List.forall_mem_cons.mpr ⟨cv1596 hg, (List.forall_mem_cons.mpr ⟨cv1836 hg, (fun _ h => absurd h List.not_mem_nil)⟩)⟩)⟩)
/-- LotBeliefs.Tape.isWord -/
def ct1838 : sxCt := (85, 0, (1, [], [], [(0, .inl 1), (1, .inl 1000006)], [], [], []), [], [
  (1, [], [], [], [.inr (false, (0, .ofNat 0))], [], []), 
  (1, [], [], [], [.inr (false, (0, .ofNat 1))], [], [])], [], 0, 0)
def cu1838 : List sxCu := []
set_option maxRecDepth 1000000 in
theorem cv1838 {gh : sxGh} (hg : sxGd sxKw gh) : sxCtV sxKw gh ct1838 := sxMeB_ok (cts := []) (cuts := cu1838) (sp := []) 144 (by decide +kernel) hg (by decide) (by decide) (fun _ h => absurd h List.not_mem_nil)
/-- LotBeliefs.Sentence.readEither -/
def ct1839 : sxCt := (41, 5, (1, [], [], [(0, .inl 1), (1, .inl 11)], [], [(1, (0, .ofNat 7), .inr (false, (0, .ofNat 6)))], []), [(1, 4), (1, 5), (1, 6), (1, 7), (1, 9), (1, 10)], [
  (3, [(1, .negSucc 9223372036854775807, .ofNat 9223372036854775807), (2, .ofNat 0, .ofNat 4)], [], [], [.inr (true, (1, .ofNat 0))], [(1, (0, .ofNat 3), .inr (false, (2, .ofNat 0))), (1, (0, .ofNat 7), .inr (false, (0, .ofNat 6)))], [])], [], 0, 0)
def cu1839 : List sxCu := [
  (9, (4, [(1, .negSucc 9223372036854775807, .ofNat 9223372036854775807), (2, .ofNat 0, .ofNat 600), (3, .ofNat 0, .ofNat 4)], [], [(0, .inl 1), (1, .inl 11), (2, .inr (true, (1, .ofNat 0))), (4, .inr (false, (2, .ofNat 0)))], [], [(1, (0, .ofNat 3), .inr (false, (3, .ofNat 0))), (1, (0, .ofNat 7), .inr (false, (0, .ofNat 6)))], []), ((0, 2, .ofNat 600), (0, 0, .ofNat 0), (0, 0, .ofNat 0)), 0, 0)]
set_option maxRecDepth 1000000 in
theorem cv1839 {gh : sxGh} (hg : sxGd sxKw gh) : sxCtV sxKw gh ct1839 := sxMeB_ok (cts := [ct1837, ct1596, ct1838]) (cuts := cu1839) (sp := []) 92 (by decide +kernel) hg (by decide) (by decide) (List.forall_mem_cons.mpr ⟨cv1837 hg, (List.forall_mem_cons.mpr ⟨cv1596 hg, (List.forall_mem_cons.mpr ⟨cv1838 hg, (fun _ h => absurd h List.not_mem_nil)⟩)⟩)⟩)
/-- LotBeliefs.Sentence.readBrackets -/
def ct1840 : sxCt := (46, 6, (1, [], [], [(0, .inl 1), (1, .inl 11)], [], [(1, (0, .ofNat 7), .inr (false, (0, .ofNat 5)))], []), [(1, 4), (1, 5), (1, 6), (1, 7), (1, 8), (1, 9), (1, 10)], [
  (3, [(1, .negSucc 9223372036854775807, .ofNat 9223372036854775807), (2, .ofNat 0, .ofNat 4)], [], [], [.inr (true, (1, .ofNat 0))], [(1, (0, .ofNat 3), .inr (false, (2, .ofNat 0))), (1, (0, .ofNat 7), .inr (false, (0, .ofNat 5)))], [])], [], 0, 0)
def cu1840 : List sxCu := []
set_option maxRecDepth 1000000 in
theorem cv1840 {gh : sxGh} (hg : sxGd sxKw gh) : sxCtV sxKw gh ct1840 := sxMeB_ok (cts := [ct1839, ct1596]) (cuts := cu1840) (sp := []) 196 (by decide +kernel) hg (by decide) (by decide) (List.forall_mem_cons.mpr ⟨cv1839 hg, (List.forall_mem_cons.mpr ⟨cv1596 hg, (fun _ h => absurd h List.not_mem_nil)⟩)⟩)
/-- LotBeliefs.Sentence.readAtom -/
def ct1841 : sxCt := (47, 1, (1, [], [], [(0, .inl 1), (1, .inl 11)], [], [(1, (0, .ofNat 7), .inr (false, (0, .ofNat 5)))], []), [(1, 4), (1, 5), (1, 6), (1, 7), (1, 9), (1, 10)], [
  (3, [(1, .negSucc 9223372036854775807, .ofNat 9223372036854775807), (2, .ofNat 0, .ofNat 4)], [], [], [.inr (true, (1, .ofNat 0))], [(1, (0, .ofNat 3), .inr (false, (2, .ofNat 0))), (1, (0, .ofNat 7), .inr (false, (0, .ofNat 5)))], [])], [], 0, 0)
def cu1841 : List sxCu := []
set_option maxRecDepth 1000000 in
theorem cv1841 {gh : sxGh} (hg : sxGd sxKw gh) : sxCtV sxKw gh ct1841 := sxMeB_ok (cts := [ct1596]) (cuts := cu1841) (sp := []) 222 (by decide +kernel) hg (by decide) (by decide) (List.forall_mem_cons.mpr ⟨cv1596 hg, (fun _ h => absurd h List.not_mem_nil)⟩)
/-- LotBeliefs.Sentence.readPart -/
def ct1842 : sxCt := (43, 7, (1, [], [], [(0, .inl 1), (1, .inl 11)], [], [(1, (0, .ofNat 7), .inr (false, (0, .ofNat 5)))], []), [(1, 4), (1, 5), (1, 6), (1, 7), (1, 8), (1, 9), (1, 10)], [
  (3, [(1, .negSucc 9223372036854775807, .ofNat 9223372036854775807), (2, .ofNat 0, .ofNat 4)], [], [], [.inr (true, (1, .ofNat 0))], [(1, (0, .ofNat 3), .inr (false, (2, .ofNat 0))), (1, (0, .ofNat 7), .inr (false, (0, .ofNat 5)))], [])], [], 0, 0)
def cu1842 : List sxCu := []
set_option maxRecDepth 1000000 in
theorem cv1842 {gh : sxGh} (hg : sxGd sxKw gh) : sxCtV sxKw gh ct1842 := sxMeB_ok (cts := [ct1833, ct1835, ct1840, ct1841, ct1826, ct1828]) (cuts := cu1842) (sp := []) 118 (by decide +kernel) hg (by decide) (by decide) (List.forall_mem_cons.mpr ⟨cv1833 hg, (List.forall_mem_cons.mpr ⟨cv1835 hg, (List.forall_mem_cons.mpr ⟨cv1840 hg, (List.forall_mem_cons.mpr ⟨cv1841 hg, (List.forall_mem_cons.mpr ⟨cv1826 hg, (List.forall_mem_cons.mpr ⟨cv1828 hg, (fun _ h => absurd h List.not_mem_nil)⟩)⟩)⟩)⟩)⟩)⟩)
/-- LotBeliefs.Sentence.readNot -/
def ct1843 : sxCt := (44, 8, (1, [], [], [(0, .inl 1), (1, .inl 11)], [], [(1, (0, .ofNat 7), .inr (false, (0, .ofNat 4)))], []), [(1, 4), (1, 5), (1, 6), (1, 7), (1, 8), (1, 9), (1, 10)], [
  (3, [(1, .negSucc 9223372036854775807, .ofNat 9223372036854775807), (2, .ofNat 0, .ofNat 4)], [], [], [.inr (true, (1, .ofNat 0))], [(1, (0, .ofNat 3), .inr (false, (2, .ofNat 0))), (1, (0, .ofNat 7), .inr (false, (0, .ofNat 4)))], [])], [], 0, 0)
def cu1843 : List sxCu := []
set_option maxRecDepth 1000000 in
theorem cv1843 {gh : sxGh} (hg : sxGd sxKw gh) : sxCtV sxKw gh ct1843 := sxMeB_ok (cts := [ct1842, ct1596]) (cuts := cu1843) (sp := []) 99 (by decide +kernel) hg (by decide) (by decide) (List.forall_mem_cons.mpr ⟨cv1842 hg, (List.forall_mem_cons.mpr ⟨cv1596 hg, (fun _ h => absurd h List.not_mem_nil)⟩)⟩)
/-- LotBeliefs.Sentence.readIf -/
def ct1844 : sxCt := (45, 8, (1, [], [], [(0, .inl 1), (1, .inl 11)], [], [(1, (0, .ofNat 7), .inr (false, (0, .ofNat 4)))], []), [(1, 4), (1, 5), (1, 6), (1, 7), (1, 8), (1, 9), (1, 10)], [
  (3, [(1, .negSucc 9223372036854775807, .ofNat 9223372036854775807), (2, .ofNat 0, .ofNat 4)], [], [], [.inr (true, (1, .ofNat 0))], [(1, (0, .ofNat 3), .inr (false, (2, .ofNat 0))), (1, (0, .ofNat 7), .inr (false, (0, .ofNat 4)))], [])], [], 0, 0)
def cu1844 : List sxCu := []
set_option maxRecDepth 1000000 in
theorem cv1844 {gh : sxGh} (hg : sxGd sxKw gh) : sxCtV sxKw gh ct1844 := sxMeB_ok (cts := [ct1842, ct1596, ct1834]) (cuts := cu1844) (sp := []) 177 (by decide +kernel) hg (by decide) (by decide) (List.forall_mem_cons.mpr ⟨cv1842 hg, (List.forall_mem_cons.mpr ⟨cv1596 hg, (List.forall_mem_cons.mpr ⟨cv1834 hg, (fun _ h => absurd h List.not_mem_nil)⟩)⟩)⟩)
/-- LotBeliefs.Sentence.readEach -/
def ct1845 : sxCt := (42, 8, (1, [], [], [(0, .inl 1), (1, .inl 11)], [], [(1, (0, .ofNat 7), .inr (false, (0, .ofNat 5)))], []), [(1, 4), (1, 5), (1, 6), (1, 7), (1, 8), (1, 9), (1, 10)], [
  (3, [(1, .negSucc 9223372036854775807, .ofNat 9223372036854775807), (2, .ofNat 0, .ofNat 4)], [], [], [.inr (true, (1, .ofNat 0))], [(1, (0, .ofNat 3), .inr (false, (2, .ofNat 0))), (1, (0, .ofNat 7), .inr (false, (0, .ofNat 5)))], [])], [], 0, 0)
def cu1845 : List sxCu := [
  (9, (4, [(1, .negSucc 9223372036854775807, .ofNat 9223372036854775807), (2, .ofNat 0, .ofNat 600), (3, .ofNat 0, .ofNat 4)], [], [(0, .inl 1), (1, .inl 11), (2, .inr (true, (1, .ofNat 0))), (4, .inr (false, (2, .ofNat 0)))], [], [(1, (0, .ofNat 3), .inr (false, (3, .ofNat 0))), (1, (0, .ofNat 7), .inr (false, (0, .ofNat 5)))], []), ((0, 2, .ofNat 600), (0, 0, .ofNat 0), (0, 0, .ofNat 0)), 0, 0)]
set_option maxRecDepth 1000000 in
theorem cv1845 {gh : sxGh} (hg : sxGd sxKw gh) : sxCtV sxKw gh ct1845 := sxMeB_ok (cts := [ct1842, ct1596, ct1836]) (cuts := cu1845) (sp := []) 92 (by decide +kernel) hg (by decide) (by decide) (List.forall_mem_cons.mpr ⟨cv1842 hg, (List.forall_mem_cons.mpr ⟨cv1596 hg, (List.forall_mem_cons.mpr ⟨cv1836 hg, (fun _ h => absurd h List.not_mem_nil)⟩)⟩)⟩)
/-- LotBeliefs.Sentence.readEither -/
def ct1846 : sxCt := (41, 9, (1, [], [], [(0, .inl 1), (1, .inl 11)], [], [(1, (0, .ofNat 7), .inr (false, (0, .ofNat 5)))], []), [(1, 4), (1, 5), (1, 6), (1, 7), (1, 8), (1, 9), (1, 10)], [
  (3, [(1, .negSucc 9223372036854775807, .ofNat 9223372036854775807), (2, .ofNat 0, .ofNat 4)], [], [], [.inr (true, (1, .ofNat 0))], [(1, (0, .ofNat 3), .inr (false, (2, .ofNat 0))), (1, (0, .ofNat 7), .inr (false, (0, .ofNat 5)))], [])], [], 0, 0)
def cu1846 : List sxCu := [
  (9, (4, [(1, .negSucc 9223372036854775807, .ofNat 9223372036854775807), (2, .ofNat 0, .ofNat 600), (3, .ofNat 0, .ofNat 4)], [], [(0, .inl 1), (1, .inl 11), (2, .inr (true, (1, .ofNat 0))), (4, .inr (false, (2, .ofNat 0)))], [], [(1, (0, .ofNat 3), .inr (false, (3, .ofNat 0))), (1, (0, .ofNat 7), .inr (false, (0, .ofNat 5)))], []), ((0, 2, .ofNat 600), (0, 0, .ofNat 0), (0, 0, .ofNat 0)), 0, 0)]
set_option maxRecDepth 1000000 in
theorem cv1846 {gh : sxGh} (hg : sxGd sxKw gh) : sxCtV sxKw gh ct1846 := sxMeB_ok (cts := [ct1845, ct1596, ct1838]) (cuts := cu1846) (sp := []) 92 (by decide +kernel) hg (by decide) (by decide) (List.forall_mem_cons.mpr ⟨cv1845 hg, (List.forall_mem_cons.mpr ⟨cv1596 hg, (List.forall_mem_cons.mpr ⟨cv1838 hg, (fun _ h => absurd h List.not_mem_nil)⟩)⟩)⟩)
/-- LotBeliefs.Sentence.readBrackets -/
def ct1847 : sxCt := (46, 10, (1, [], [], [(0, .inl 1), (1, .inl 11)], [], [(1, (0, .ofNat 7), .inr (false, (0, .ofNat 4)))], []), [(1, 4), (1, 5), (1, 6), (1, 7), (1, 8), (1, 9), (1, 10)], [
  (3, [(1, .negSucc 9223372036854775807, .ofNat 9223372036854775807), (2, .ofNat 0, .ofNat 4)], [], [], [.inr (true, (1, .ofNat 0))], [(1, (0, .ofNat 3), .inr (false, (2, .ofNat 0))), (1, (0, .ofNat 7), .inr (false, (0, .ofNat 4)))], [])], [], 0, 0)
def cu1847 : List sxCu := []
set_option maxRecDepth 1000000 in
theorem cv1847 {gh : sxGh} (hg : sxGd sxKw gh) : sxCtV sxKw gh ct1847 := sxMeB_ok (cts := [ct1846, ct1596]) (cuts := cu1847) (sp := []) 196 (by decide +kernel) hg (by decide) (by decide) (List.forall_mem_cons.mpr ⟨cv1846 hg, (List.forall_mem_cons.mpr ⟨cv1596 hg, (fun _ h => absurd h List.not_mem_nil)⟩)⟩)
/-- LotBeliefs.Sentence.readAtom -/
def ct1848 : sxCt := (47, 1, (1, [], [], [(0, .inl 1), (1, .inl 11)], [], [(1, (0, .ofNat 7), .inr (false, (0, .ofNat 4)))], []), [(1, 4), (1, 5), (1, 6), (1, 7), (1, 9), (1, 10)], [
  (3, [(1, .negSucc 9223372036854775807, .ofNat 9223372036854775807), (2, .ofNat 0, .ofNat 4)], [], [], [.inr (true, (1, .ofNat 0))], [(1, (0, .ofNat 3), .inr (false, (2, .ofNat 0))), (1, (0, .ofNat 7), .inr (false, (0, .ofNat 4)))], [])], [], 0, 0)
def cu1848 : List sxCu := []
set_option maxRecDepth 1000000 in
theorem cv1848 {gh : sxGh} (hg : sxGd sxKw gh) : sxCtV sxKw gh ct1848 := sxMeB_ok (cts := [ct1596]) (cuts := cu1848) (sp := []) 222 (by decide +kernel) hg (by decide) (by decide) (List.forall_mem_cons.mpr ⟨cv1596 hg, (fun _ h => absurd h List.not_mem_nil)⟩)
/-- LotBeliefs.Sentence.readPart -/
def ct1849 : sxCt := (43, 11, (1, [], [], [(0, .inl 1), (1, .inl 11)], [], [(1, (0, .ofNat 7), .inr (false, (0, .ofNat 4)))], []), [(1, 4), (1, 5), (1, 6), (1, 7), (1, 8), (1, 9), (1, 10)], [
  (3, [(1, .negSucc 9223372036854775807, .ofNat 9223372036854775807), (2, .ofNat 0, .ofNat 4)], [], [], [.inr (true, (1, .ofNat 0))], [(1, (0, .ofNat 3), .inr (false, (2, .ofNat 0))), (1, (0, .ofNat 7), .inr (false, (0, .ofNat 4)))], [])], [], 0, 0)
def cu1849 : List sxCu := []
set_option maxRecDepth 1000000 in
theorem cv1849 {gh : sxGh} (hg : sxGd sxKw gh) : sxCtV sxKw gh ct1849 := sxMeB_ok (cts := [ct1843, ct1844, ct1847, ct1848, ct1826, ct1828]) (cuts := cu1849) (sp := []) 118 (by decide +kernel) hg (by decide) (by decide) (List.forall_mem_cons.mpr ⟨cv1843 hg, (List.forall_mem_cons.mpr ⟨cv1844 hg, (List.forall_mem_cons.mpr ⟨cv1847 hg, (List.forall_mem_cons.mpr ⟨cv1848 hg, (List.forall_mem_cons.mpr ⟨cv1826 hg, (List.forall_mem_cons.mpr ⟨cv1828 hg, (fun _ h => absurd h List.not_mem_nil)⟩)⟩)⟩)⟩)⟩)⟩)
/-- LotBeliefs.Sentence.readNot -/
def ct1850 : sxCt := (44, 12, (1, [], [], [(0, .inl 1), (1, .inl 11)], [], [(1, (0, .ofNat 7), .inr (false, (0, .ofNat 3)))], []), [(1, 4), (1, 5), (1, 6), (1, 7), (1, 8), (1, 9), (1, 10)], [
  (3, [(1, .negSucc 9223372036854775807, .ofNat 9223372036854775807), (2, .ofNat 0, .ofNat 4)], [], [], [.inr (true, (1, .ofNat 0))], [(1, (0, .ofNat 3), .inr (false, (2, .ofNat 0))), (1, (0, .ofNat 7), .inr (false, (0, .ofNat 3)))], [])], [], 0, 0)
def cu1850 : List sxCu := []
set_option maxRecDepth 1000000 in
theorem cv1850 {gh : sxGh} (hg : sxGd sxKw gh) : sxCtV sxKw gh ct1850 := sxMeB_ok (cts := [ct1849, ct1596]) (cuts := cu1850) (sp := []) 99 (by decide +kernel) hg (by decide) (by decide) (List.forall_mem_cons.mpr ⟨cv1849 hg, (List.forall_mem_cons.mpr ⟨cv1596 hg, (fun _ h => absurd h List.not_mem_nil)⟩)⟩)
/-- LotBeliefs.Sentence.readIf -/
def ct1851 : sxCt := (45, 12, (1, [], [], [(0, .inl 1), (1, .inl 11)], [], [(1, (0, .ofNat 7), .inr (false, (0, .ofNat 3)))], []), [(1, 4), (1, 5), (1, 6), (1, 7), (1, 8), (1, 9), (1, 10)], [
  (3, [(1, .negSucc 9223372036854775807, .ofNat 9223372036854775807), (2, .ofNat 0, .ofNat 4)], [], [], [.inr (true, (1, .ofNat 0))], [(1, (0, .ofNat 3), .inr (false, (2, .ofNat 0))), (1, (0, .ofNat 7), .inr (false, (0, .ofNat 3)))], [])], [], 0, 0)
def cu1851 : List sxCu := []
set_option maxRecDepth 1000000 in
theorem cv1851 {gh : sxGh} (hg : sxGd sxKw gh) : sxCtV sxKw gh ct1851 := sxMeB_ok (cts := [ct1849, ct1596, ct1834]) (cuts := cu1851) (sp := []) 177 (by decide +kernel) hg (by decide) (by decide) (List.forall_mem_cons.mpr ⟨cv1849 hg, (List.forall_mem_cons.mpr ⟨cv1596 hg, (List.forall_mem_cons.mpr ⟨cv1834 hg, (fun _ h => absurd h List.not_mem_nil)⟩)⟩)⟩)
/-- LotBeliefs.Sentence.readEach -/
def ct1852 : sxCt := (42, 12, (1, [], [], [(0, .inl 1), (1, .inl 11)], [], [(1, (0, .ofNat 7), .inr (false, (0, .ofNat 4)))], []), [(1, 4), (1, 5), (1, 6), (1, 7), (1, 8), (1, 9), (1, 10)], [
  (3, [(1, .negSucc 9223372036854775807, .ofNat 9223372036854775807), (2, .ofNat 0, .ofNat 4)], [], [], [.inr (true, (1, .ofNat 0))], [(1, (0, .ofNat 3), .inr (false, (2, .ofNat 0))), (1, (0, .ofNat 7), .inr (false, (0, .ofNat 4)))], [])], [], 0, 0)
def cu1852 : List sxCu := [
  (9, (4, [(1, .negSucc 9223372036854775807, .ofNat 9223372036854775807), (2, .ofNat 0, .ofNat 600), (3, .ofNat 0, .ofNat 4)], [], [(0, .inl 1), (1, .inl 11), (2, .inr (true, (1, .ofNat 0))), (4, .inr (false, (2, .ofNat 0)))], [], [(1, (0, .ofNat 3), .inr (false, (3, .ofNat 0))), (1, (0, .ofNat 7), .inr (false, (0, .ofNat 4)))], []), ((0, 2, .ofNat 600), (0, 0, .ofNat 0), (0, 0, .ofNat 0)), 0, 0)]
set_option maxRecDepth 1000000 in
theorem cv1852 {gh : sxGh} (hg : sxGd sxKw gh) : sxCtV sxKw gh ct1852 := sxMeB_ok (cts := [ct1849, ct1596, ct1836]) (cuts := cu1852) (sp := []) 92 (by decide +kernel) hg (by decide) (by decide) (List.forall_mem_cons.mpr ⟨cv1849 hg, (List.forall_mem_cons.mpr ⟨cv1596 hg, (List.forall_mem_cons.mpr ⟨cv1836 hg, (fun _ h => absurd h List.not_mem_nil)⟩)⟩)⟩)
/-- LotBeliefs.Sentence.readEither -/
def ct1853 : sxCt := (41, 13, (1, [], [], [(0, .inl 1), (1, .inl 11)], [], [(1, (0, .ofNat 7), .inr (false, (0, .ofNat 4)))], []), [(1, 4), (1, 5), (1, 6), (1, 7), (1, 8), (1, 9), (1, 10)], [
  (3, [(1, .negSucc 9223372036854775807, .ofNat 9223372036854775807), (2, .ofNat 0, .ofNat 4)], [], [], [.inr (true, (1, .ofNat 0))], [(1, (0, .ofNat 3), .inr (false, (2, .ofNat 0))), (1, (0, .ofNat 7), .inr (false, (0, .ofNat 4)))], [])], [], 0, 0)
def cu1853 : List sxCu := [
  (9, (4, [(1, .negSucc 9223372036854775807, .ofNat 9223372036854775807), (2, .ofNat 0, .ofNat 600), (3, .ofNat 0, .ofNat 4)], [], [(0, .inl 1), (1, .inl 11), (2, .inr (true, (1, .ofNat 0))), (4, .inr (false, (2, .ofNat 0)))], [], [(1, (0, .ofNat 3), .inr (false, (3, .ofNat 0))), (1, (0, .ofNat 7), .inr (false, (0, .ofNat 4)))], []), ((0, 2, .ofNat 600), (0, 0, .ofNat 0), (0, 0, .ofNat 0)), 0, 0)]
set_option maxRecDepth 1000000 in
theorem cv1853 {gh : sxGh} (hg : sxGd sxKw gh) : sxCtV sxKw gh ct1853 := sxMeB_ok (cts := [ct1852, ct1596, ct1838]) (cuts := cu1853) (sp := []) 92 (by decide +kernel) hg (by decide) (by decide) (List.forall_mem_cons.mpr ⟨cv1852 hg, (List.forall_mem_cons.mpr ⟨cv1596 hg, (List.forall_mem_cons.mpr ⟨cv1838 hg, (fun _ h => absurd h List.not_mem_nil)⟩)⟩)⟩)
/-- LotBeliefs.Sentence.readBrackets -/
def ct1854 : sxCt := (46, 14, (1, [], [], [(0, .inl 1), (1, .inl 11)], [], [(1, (0, .ofNat 7), .inr (false, (0, .ofNat 3)))], []), [(1, 4), (1, 5), (1, 6), (1, 7), (1, 8), (1, 9), (1, 10)], [
  (3, [(1, .negSucc 9223372036854775807, .ofNat 9223372036854775807), (2, .ofNat 0, .ofNat 4)], [], [], [.inr (true, (1, .ofNat 0))], [(1, (0, .ofNat 3), .inr (false, (2, .ofNat 0))), (1, (0, .ofNat 7), .inr (false, (0, .ofNat 3)))], [])], [], 0, 0)
def cu1854 : List sxCu := []
set_option maxRecDepth 1000000 in
theorem cv1854 {gh : sxGh} (hg : sxGd sxKw gh) : sxCtV sxKw gh ct1854 := sxMeB_ok (cts := [ct1853, ct1596]) (cuts := cu1854) (sp := []) 196 (by decide +kernel) hg (by decide) (by decide) (List.forall_mem_cons.mpr ⟨cv1853 hg, (List.forall_mem_cons.mpr ⟨cv1596 hg, (fun _ h => absurd h List.not_mem_nil)⟩)⟩)
/-- LotBeliefs.Sentence.readAtom -/
def ct1855 : sxCt := (47, 1, (1, [], [], [(0, .inl 1), (1, .inl 11)], [], [(1, (0, .ofNat 7), .inr (false, (0, .ofNat 3)))], []), [(1, 4), (1, 5), (1, 6), (1, 7), (1, 9), (1, 10)], [
  (3, [(1, .negSucc 9223372036854775807, .ofNat 9223372036854775807), (2, .ofNat 0, .ofNat 4)], [], [], [.inr (true, (1, .ofNat 0))], [(1, (0, .ofNat 3), .inr (false, (2, .ofNat 0))), (1, (0, .ofNat 7), .inr (false, (0, .ofNat 3)))], [])], [], 0, 0)
def cu1855 : List sxCu := []
set_option maxRecDepth 1000000 in
theorem cv1855 {gh : sxGh} (hg : sxGd sxKw gh) : sxCtV sxKw gh ct1855 := sxMeB_ok (cts := [ct1596]) (cuts := cu1855) (sp := []) 222 (by decide +kernel) hg (by decide) (by decide) (List.forall_mem_cons.mpr ⟨cv1596 hg, (fun _ h => absurd h List.not_mem_nil)⟩)
/-- LotBeliefs.Sentence.readPart -/
def ct1856 : sxCt := (43, 15, (1, [], [], [(0, .inl 1), (1, .inl 11)], [], [(1, (0, .ofNat 7), .inr (false, (0, .ofNat 3)))], []), [(1, 4), (1, 5), (1, 6), (1, 7), (1, 8), (1, 9), (1, 10)], [
  (3, [(1, .negSucc 9223372036854775807, .ofNat 9223372036854775807), (2, .ofNat 0, .ofNat 4)], [], [], [.inr (true, (1, .ofNat 0))], [(1, (0, .ofNat 3), .inr (false, (2, .ofNat 0))), (1, (0, .ofNat 7), .inr (false, (0, .ofNat 3)))], [])], [], 0, 0)
def cu1856 : List sxCu := []
set_option maxRecDepth 1000000 in
theorem cv1856 {gh : sxGh} (hg : sxGd sxKw gh) : sxCtV sxKw gh ct1856 := sxMeB_ok (cts := [ct1850, ct1851, ct1854, ct1855, ct1826, ct1828]) (cuts := cu1856) (sp := []) 118 (by decide +kernel) hg (by decide) (by decide) (List.forall_mem_cons.mpr ⟨cv1850 hg, (List.forall_mem_cons.mpr ⟨cv1851 hg, (List.forall_mem_cons.mpr ⟨cv1854 hg, (List.forall_mem_cons.mpr ⟨cv1855 hg, (List.forall_mem_cons.mpr ⟨cv1826 hg, (List.forall_mem_cons.mpr ⟨cv1828 hg, (fun _ h => absurd h List.not_mem_nil)⟩)⟩)⟩)⟩)⟩)⟩)
/-- LotBeliefs.Sentence.readNot -/
def ct1857 : sxCt := (44, 16, (1, [], [], [(0, .inl 1), (1, .inl 11)], [], [(1, (0, .ofNat 7), .inr (false, (0, .ofNat 2)))], []), [(1, 4), (1, 5), (1, 6), (1, 7), (1, 8), (1, 9), (1, 10)], [
  (3, [(1, .negSucc 9223372036854775807, .ofNat 9223372036854775807), (2, .ofNat 0, .ofNat 4)], [], [], [.inr (true, (1, .ofNat 0))], [(1, (0, .ofNat 3), .inr (false, (2, .ofNat 0))), (1, (0, .ofNat 7), .inr (false, (0, .ofNat 2)))], [])], [], 0, 0)
def cu1857 : List sxCu := []
set_option maxRecDepth 1000000 in
theorem cv1857 {gh : sxGh} (hg : sxGd sxKw gh) : sxCtV sxKw gh ct1857 := sxMeB_ok (cts := [ct1856, ct1596]) (cuts := cu1857) (sp := []) 99 (by decide +kernel) hg (by decide) (by decide) (List.forall_mem_cons.mpr ⟨cv1856 hg, (List.forall_mem_cons.mpr ⟨cv1596 hg, (fun _ h => absurd h List.not_mem_nil)⟩)⟩)
/-- LotBeliefs.Sentence.readIf -/
def ct1858 : sxCt := (45, 16, (1, [], [], [(0, .inl 1), (1, .inl 11)], [], [(1, (0, .ofNat 7), .inr (false, (0, .ofNat 2)))], []), [(1, 4), (1, 5), (1, 6), (1, 7), (1, 8), (1, 9), (1, 10)], [
  (3, [(1, .negSucc 9223372036854775807, .ofNat 9223372036854775807), (2, .ofNat 0, .ofNat 4)], [], [], [.inr (true, (1, .ofNat 0))], [(1, (0, .ofNat 3), .inr (false, (2, .ofNat 0))), (1, (0, .ofNat 7), .inr (false, (0, .ofNat 2)))], [])], [], 0, 0)
def cu1858 : List sxCu := []
set_option maxRecDepth 1000000 in
theorem cv1858 {gh : sxGh} (hg : sxGd sxKw gh) : sxCtV sxKw gh ct1858 := sxMeB_ok (cts := [ct1856, ct1596, ct1834]) (cuts := cu1858) (sp := []) 177 (by decide +kernel) hg (by decide) (by decide) (List.forall_mem_cons.mpr ⟨cv1856 hg, (List.forall_mem_cons.mpr ⟨cv1596 hg, (List.forall_mem_cons.mpr ⟨cv1834 hg, (fun _ h => absurd h List.not_mem_nil)⟩)⟩)⟩)
/-- LotBeliefs.Sentence.readEach -/
def ct1859 : sxCt := (42, 16, (1, [], [], [(0, .inl 1), (1, .inl 11)], [], [(1, (0, .ofNat 7), .inr (false, (0, .ofNat 3)))], []), [(1, 4), (1, 5), (1, 6), (1, 7), (1, 8), (1, 9), (1, 10)], [
  (3, [(1, .negSucc 9223372036854775807, .ofNat 9223372036854775807), (2, .ofNat 0, .ofNat 4)], [], [], [.inr (true, (1, .ofNat 0))], [(1, (0, .ofNat 3), .inr (false, (2, .ofNat 0))), (1, (0, .ofNat 7), .inr (false, (0, .ofNat 3)))], [])], [], 0, 0)
def cu1859 : List sxCu := [
  (9, (4, [(1, .negSucc 9223372036854775807, .ofNat 9223372036854775807), (2, .ofNat 0, .ofNat 600), (3, .ofNat 0, .ofNat 4)], [], [(0, .inl 1), (1, .inl 11), (2, .inr (true, (1, .ofNat 0))), (4, .inr (false, (2, .ofNat 0)))], [], [(1, (0, .ofNat 3), .inr (false, (3, .ofNat 0))), (1, (0, .ofNat 7), .inr (false, (0, .ofNat 3)))], []), ((0, 2, .ofNat 600), (0, 0, .ofNat 0), (0, 0, .ofNat 0)), 0, 0)]
set_option maxRecDepth 1000000 in
theorem cv1859 {gh : sxGh} (hg : sxGd sxKw gh) : sxCtV sxKw gh ct1859 := sxMeB_ok (cts := [ct1856, ct1596, ct1836]) (cuts := cu1859) (sp := []) 92 (by decide +kernel) hg (by decide) (by decide) (List.forall_mem_cons.mpr ⟨cv1856 hg, (List.forall_mem_cons.mpr ⟨cv1596 hg, (List.forall_mem_cons.mpr ⟨cv1836 hg, (fun _ h => absurd h List.not_mem_nil)⟩)⟩)⟩)
/-- LotBeliefs.Sentence.readEither -/
def ct1860 : sxCt := (41, 17, (1, [], [], [(0, .inl 1), (1, .inl 11)], [], [(1, (0, .ofNat 7), .inr (false, (0, .ofNat 3)))], []), [(1, 4), (1, 5), (1, 6), (1, 7), (1, 8), (1, 9), (1, 10)], [
  (3, [(1, .negSucc 9223372036854775807, .ofNat 9223372036854775807), (2, .ofNat 0, .ofNat 4)], [], [], [.inr (true, (1, .ofNat 0))], [(1, (0, .ofNat 3), .inr (false, (2, .ofNat 0))), (1, (0, .ofNat 7), .inr (false, (0, .ofNat 3)))], [])], [], 0, 0)
def cu1860 : List sxCu := [
  (9, (4, [(1, .negSucc 9223372036854775807, .ofNat 9223372036854775807), (2, .ofNat 0, .ofNat 600), (3, .ofNat 0, .ofNat 4)], [], [(0, .inl 1), (1, .inl 11), (2, .inr (true, (1, .ofNat 0))), (4, .inr (false, (2, .ofNat 0)))], [], [(1, (0, .ofNat 3), .inr (false, (3, .ofNat 0))), (1, (0, .ofNat 7), .inr (false, (0, .ofNat 3)))], []), ((0, 2, .ofNat 600), (0, 0, .ofNat 0), (0, 0, .ofNat 0)), 0, 0)]
set_option maxRecDepth 1000000 in
theorem cv1860 {gh : sxGh} (hg : sxGd sxKw gh) : sxCtV sxKw gh ct1860 := sxMeB_ok (cts := [ct1859, ct1596, ct1838]) (cuts := cu1860) (sp := []) 92 (by decide +kernel) hg (by decide) (by decide) (List.forall_mem_cons.mpr ⟨cv1859 hg, (List.forall_mem_cons.mpr ⟨cv1596 hg, (List.forall_mem_cons.mpr ⟨cv1838 hg, (fun _ h => absurd h List.not_mem_nil)⟩)⟩)⟩)
/-- LotBeliefs.Sentence.readBrackets -/
def ct1861 : sxCt := (46, 18, (1, [], [], [(0, .inl 1), (1, .inl 11)], [], [(1, (0, .ofNat 7), .inr (false, (0, .ofNat 2)))], []), [(1, 4), (1, 5), (1, 6), (1, 7), (1, 8), (1, 9), (1, 10)], [
  (3, [(1, .negSucc 9223372036854775807, .ofNat 9223372036854775807), (2, .ofNat 0, .ofNat 4)], [], [], [.inr (true, (1, .ofNat 0))], [(1, (0, .ofNat 3), .inr (false, (2, .ofNat 0))), (1, (0, .ofNat 7), .inr (false, (0, .ofNat 2)))], [])], [], 0, 0)
def cu1861 : List sxCu := []
set_option maxRecDepth 1000000 in
theorem cv1861 {gh : sxGh} (hg : sxGd sxKw gh) : sxCtV sxKw gh ct1861 := sxMeB_ok (cts := [ct1860, ct1596]) (cuts := cu1861) (sp := []) 196 (by decide +kernel) hg (by decide) (by decide) (List.forall_mem_cons.mpr ⟨cv1860 hg, (List.forall_mem_cons.mpr ⟨cv1596 hg, (fun _ h => absurd h List.not_mem_nil)⟩)⟩)
/-- LotBeliefs.Sentence.readAtom -/
def ct1862 : sxCt := (47, 1, (1, [], [], [(0, .inl 1), (1, .inl 11)], [], [(1, (0, .ofNat 7), .inr (false, (0, .ofNat 2)))], []), [(1, 4), (1, 5), (1, 6), (1, 7), (1, 9), (1, 10)], [
  (3, [(1, .negSucc 9223372036854775807, .ofNat 9223372036854775807), (2, .ofNat 0, .ofNat 4)], [], [], [.inr (true, (1, .ofNat 0))], [(1, (0, .ofNat 3), .inr (false, (2, .ofNat 0))), (1, (0, .ofNat 7), .inr (false, (0, .ofNat 2)))], [])], [], 0, 0)
def cu1862 : List sxCu := []
set_option maxRecDepth 1000000 in
theorem cv1862 {gh : sxGh} (hg : sxGd sxKw gh) : sxCtV sxKw gh ct1862 := sxMeB_ok (cts := [ct1596]) (cuts := cu1862) (sp := []) 222 (by decide +kernel) hg (by decide) (by decide) (List.forall_mem_cons.mpr ⟨cv1596 hg, (fun _ h => absurd h List.not_mem_nil)⟩)
/-- LotBeliefs.Sentence.readPart -/
def ct1863 : sxCt := (43, 19, (1, [], [], [(0, .inl 1), (1, .inl 11)], [], [(1, (0, .ofNat 7), .inr (false, (0, .ofNat 2)))], []), [(1, 4), (1, 5), (1, 6), (1, 7), (1, 8), (1, 9), (1, 10)], [
  (3, [(1, .negSucc 9223372036854775807, .ofNat 9223372036854775807), (2, .ofNat 0, .ofNat 4)], [], [], [.inr (true, (1, .ofNat 0))], [(1, (0, .ofNat 3), .inr (false, (2, .ofNat 0))), (1, (0, .ofNat 7), .inr (false, (0, .ofNat 2)))], [])], [], 0, 0)
def cu1863 : List sxCu := []
set_option maxRecDepth 1000000 in
theorem cv1863 {gh : sxGh} (hg : sxGd sxKw gh) : sxCtV sxKw gh ct1863 := sxMeB_ok (cts := [ct1857, ct1858, ct1861, ct1862, ct1826, ct1828]) (cuts := cu1863) (sp := []) 118 (by decide +kernel) hg (by decide) (by decide) (List.forall_mem_cons.mpr ⟨cv1857 hg, (List.forall_mem_cons.mpr ⟨cv1858 hg, (List.forall_mem_cons.mpr ⟨cv1861 hg, (List.forall_mem_cons.mpr ⟨cv1862 hg, (List.forall_mem_cons.mpr ⟨cv1826 hg, (List.forall_mem_cons.mpr ⟨cv1828 hg, (fun _ h => absurd h List.not_mem_nil)⟩)⟩)⟩)⟩)⟩)⟩)
/-- LotBeliefs.Sentence.readNot -/
def ct1864 : sxCt := (44, 20, (1, [], [], [(0, .inl 1), (1, .inl 11)], [], [(1, (0, .ofNat 7), .inr (false, (0, .ofNat 1)))], []), [(1, 4), (1, 5), (1, 6), (1, 7), (1, 8), (1, 9), (1, 10)], [
  (3, [(1, .negSucc 9223372036854775807, .ofNat 9223372036854775807), (2, .ofNat 0, .ofNat 4)], [], [], [.inr (true, (1, .ofNat 0))], [(1, (0, .ofNat 3), .inr (false, (2, .ofNat 0))), (1, (0, .ofNat 7), .inr (false, (0, .ofNat 1)))], [])], [], 0, 0)
def cu1864 : List sxCu := []
set_option maxRecDepth 1000000 in
theorem cv1864 {gh : sxGh} (hg : sxGd sxKw gh) : sxCtV sxKw gh ct1864 := sxMeB_ok (cts := [ct1863, ct1596]) (cuts := cu1864) (sp := []) 99 (by decide +kernel) hg (by decide) (by decide) (List.forall_mem_cons.mpr ⟨cv1863 hg, (List.forall_mem_cons.mpr ⟨cv1596 hg, (fun _ h => absurd h List.not_mem_nil)⟩)⟩)
/-- LotBeliefs.Sentence.readIf -/
def ct1865 : sxCt := (45, 20, (1, [], [], [(0, .inl 1), (1, .inl 11)], [], [(1, (0, .ofNat 7), .inr (false, (0, .ofNat 1)))], []), [(1, 4), (1, 5), (1, 6), (1, 7), (1, 8), (1, 9), (1, 10)], [
  (3, [(1, .negSucc 9223372036854775807, .ofNat 9223372036854775807), (2, .ofNat 0, .ofNat 4)], [], [], [.inr (true, (1, .ofNat 0))], [(1, (0, .ofNat 3), .inr (false, (2, .ofNat 0))), (1, (0, .ofNat 7), .inr (false, (0, .ofNat 1)))], [])], [], 0, 0)
def cu1865 : List sxCu := []
set_option maxRecDepth 1000000 in
theorem cv1865 {gh : sxGh} (hg : sxGd sxKw gh) : sxCtV sxKw gh ct1865 := sxMeB_ok (cts := [ct1863, ct1596, ct1834]) (cuts := cu1865) (sp := []) 177 (by decide +kernel) hg (by decide) (by decide) (List.forall_mem_cons.mpr ⟨cv1863 hg, (List.forall_mem_cons.mpr ⟨cv1596 hg, (List.forall_mem_cons.mpr ⟨cv1834 hg, (fun _ h => absurd h List.not_mem_nil)⟩)⟩)⟩)
/-- LotBeliefs.Sentence.readEach -/
def ct1866 : sxCt := (42, 20, (1, [], [], [(0, .inl 1), (1, .inl 11)], [], [(1, (0, .ofNat 7), .inr (false, (0, .ofNat 2)))], []), [(1, 4), (1, 5), (1, 6), (1, 7), (1, 8), (1, 9), (1, 10)], [
  (3, [(1, .negSucc 9223372036854775807, .ofNat 9223372036854775807), (2, .ofNat 0, .ofNat 4)], [], [], [.inr (true, (1, .ofNat 0))], [(1, (0, .ofNat 3), .inr (false, (2, .ofNat 0))), (1, (0, .ofNat 7), .inr (false, (0, .ofNat 2)))], [])], [], 0, 0)
def cu1866 : List sxCu := [
  (9, (4, [(1, .negSucc 9223372036854775807, .ofNat 9223372036854775807), (2, .ofNat 0, .ofNat 600), (3, .ofNat 0, .ofNat 4)], [], [(0, .inl 1), (1, .inl 11), (2, .inr (true, (1, .ofNat 0))), (4, .inr (false, (2, .ofNat 0)))], [], [(1, (0, .ofNat 3), .inr (false, (3, .ofNat 0))), (1, (0, .ofNat 7), .inr (false, (0, .ofNat 2)))], []), ((0, 2, .ofNat 600), (0, 0, .ofNat 0), (0, 0, .ofNat 0)), 0, 0)]
set_option maxRecDepth 1000000 in
theorem cv1866 {gh : sxGh} (hg : sxGd sxKw gh) : sxCtV sxKw gh ct1866 := sxMeB_ok (cts := [ct1863, ct1596, ct1836]) (cuts := cu1866) (sp := []) 92 (by decide +kernel) hg (by decide) (by decide) (List.forall_mem_cons.mpr ⟨cv1863 hg, (List.forall_mem_cons.mpr ⟨cv1596 hg, (List.forall_mem_cons.mpr ⟨cv1836 hg, (fun _ h => absurd h List.not_mem_nil)⟩)⟩)⟩)
/-- LotBeliefs.Sentence.readEither -/
def ct1867 : sxCt := (41, 21, (1, [], [], [(0, .inl 1), (1, .inl 11)], [], [(1, (0, .ofNat 7), .inr (false, (0, .ofNat 2)))], []), [(1, 4), (1, 5), (1, 6), (1, 7), (1, 8), (1, 9), (1, 10)], [
  (3, [(1, .negSucc 9223372036854775807, .ofNat 9223372036854775807), (2, .ofNat 0, .ofNat 4)], [], [], [.inr (true, (1, .ofNat 0))], [(1, (0, .ofNat 3), .inr (false, (2, .ofNat 0))), (1, (0, .ofNat 7), .inr (false, (0, .ofNat 2)))], [])], [], 0, 0)
def cu1867 : List sxCu := [
  (9, (4, [(1, .negSucc 9223372036854775807, .ofNat 9223372036854775807), (2, .ofNat 0, .ofNat 600), (3, .ofNat 0, .ofNat 4)], [], [(0, .inl 1), (1, .inl 11), (2, .inr (true, (1, .ofNat 0))), (4, .inr (false, (2, .ofNat 0)))], [], [(1, (0, .ofNat 3), .inr (false, (3, .ofNat 0))), (1, (0, .ofNat 7), .inr (false, (0, .ofNat 2)))], []), ((0, 2, .ofNat 600), (0, 0, .ofNat 0), (0, 0, .ofNat 0)), 0, 0)]
set_option maxRecDepth 1000000 in
theorem cv1867 {gh : sxGh} (hg : sxGd sxKw gh) : sxCtV sxKw gh ct1867 := sxMeB_ok (cts := [ct1866, ct1596, ct1838]) (cuts := cu1867) (sp := []) 92 (by decide +kernel) hg (by decide) (by decide) (List.forall_mem_cons.mpr ⟨cv1866 hg, (List.forall_mem_cons.mpr ⟨cv1596 hg, (List.forall_mem_cons.mpr ⟨cv1838 hg, (fun _ h => absurd h List.not_mem_nil)⟩)⟩)⟩)
/-- LotBeliefs.Sentence.readBrackets -/
def ct1868 : sxCt := (46, 22, (1, [], [], [(0, .inl 1), (1, .inl 11)], [], [(1, (0, .ofNat 7), .inr (false, (0, .ofNat 1)))], []), [(1, 4), (1, 5), (1, 6), (1, 7), (1, 8), (1, 9), (1, 10)], [
  (3, [(1, .negSucc 9223372036854775807, .ofNat 9223372036854775807), (2, .ofNat 0, .ofNat 4)], [], [], [.inr (true, (1, .ofNat 0))], [(1, (0, .ofNat 3), .inr (false, (2, .ofNat 0))), (1, (0, .ofNat 7), .inr (false, (0, .ofNat 1)))], [])], [], 0, 0)
def cu1868 : List sxCu := []
set_option maxRecDepth 1000000 in
theorem cv1868 {gh : sxGh} (hg : sxGd sxKw gh) : sxCtV sxKw gh ct1868 := sxMeB_ok (cts := [ct1867, ct1596]) (cuts := cu1868) (sp := []) 196 (by decide +kernel) hg (by decide) (by decide) (List.forall_mem_cons.mpr ⟨cv1867 hg, (List.forall_mem_cons.mpr ⟨cv1596 hg, (fun _ h => absurd h List.not_mem_nil)⟩)⟩)
/-- LotBeliefs.Sentence.readAtom -/
def ct1869 : sxCt := (47, 1, (1, [], [], [(0, .inl 1), (1, .inl 11)], [], [(1, (0, .ofNat 7), .inr (false, (0, .ofNat 1)))], []), [(1, 4), (1, 5), (1, 6), (1, 7), (1, 9), (1, 10)], [
  (3, [(1, .negSucc 9223372036854775807, .ofNat 9223372036854775807), (2, .ofNat 0, .ofNat 4)], [], [], [.inr (true, (1, .ofNat 0))], [(1, (0, .ofNat 3), .inr (false, (2, .ofNat 0))), (1, (0, .ofNat 7), .inr (false, (0, .ofNat 1)))], [])], [], 0, 0)
def cu1869 : List sxCu := []
set_option maxRecDepth 1000000 in
theorem cv1869 {gh : sxGh} (hg : sxGd sxKw gh) : sxCtV sxKw gh ct1869 := sxMeB_ok (cts := [ct1596]) (cuts := cu1869) (sp := []) 222 (by decide +kernel) hg (by decide) (by decide) (List.forall_mem_cons.mpr ⟨cv1596 hg, (fun _ h => absurd h List.not_mem_nil)⟩)
/-- LotBeliefs.Sentence.readPart -/
def ct1870 : sxCt := (43, 23, (1, [], [], [(0, .inl 1), (1, .inl 11)], [], [(1, (0, .ofNat 7), .inr (false, (0, .ofNat 1)))], []), [(1, 4), (1, 5), (1, 6), (1, 7), (1, 8), (1, 9), (1, 10)], [
  (3, [(1, .negSucc 9223372036854775807, .ofNat 9223372036854775807), (2, .ofNat 0, .ofNat 4)], [], [], [.inr (true, (1, .ofNat 0))], [(1, (0, .ofNat 3), .inr (false, (2, .ofNat 0))), (1, (0, .ofNat 7), .inr (false, (0, .ofNat 1)))], [])], [], 0, 0)
def cu1870 : List sxCu := []
set_option maxRecDepth 1000000 in
theorem cv1870 {gh : sxGh} (hg : sxGd sxKw gh) : sxCtV sxKw gh ct1870 := sxMeB_ok (cts := [ct1864, ct1865, ct1868, ct1869, ct1826, ct1828]) (cuts := cu1870) (sp := []) 118 (by decide +kernel) hg (by decide) (by decide) (List.forall_mem_cons.mpr ⟨cv1864 hg, (List.forall_mem_cons.mpr ⟨cv1865 hg, (List.forall_mem_cons.mpr ⟨cv1868 hg, (List.forall_mem_cons.mpr ⟨cv1869 hg, (List.forall_mem_cons.mpr ⟨cv1826 hg, (List.forall_mem_cons.mpr ⟨cv1828 hg, (fun _ h => absurd h List.not_mem_nil)⟩)⟩)⟩)⟩)⟩)⟩)
/-- LotBeliefs.Sentence.readNot -/
def ct1871 : sxCt := (44, 24, (1, [], [], [(0, .inl 1), (1, .inl 11)], [], [(1, (0, .ofNat 7), .inr (false, (0, .ofNat 0)))], []), [(1, 4), (1, 5), (1, 6), (1, 7), (1, 8), (1, 9), (1, 10)], [
  (3, [(1, .negSucc 9223372036854775807, .ofNat 9223372036854775807), (2, .ofNat 0, .ofNat 4)], [], [], [.inr (true, (1, .ofNat 0))], [(1, (0, .ofNat 3), .inr (false, (2, .ofNat 0))), (1, (0, .ofNat 7), .inr (false, (0, .ofNat 0)))], [])], [], 0, 0)
def cu1871 : List sxCu := []
set_option maxRecDepth 1000000 in
theorem cv1871 {gh : sxGh} (hg : sxGd sxKw gh) : sxCtV sxKw gh ct1871 := sxMeB_ok (cts := [ct1870, ct1596]) (cuts := cu1871) (sp := []) 99 (by decide +kernel) hg (by decide) (by decide) (List.forall_mem_cons.mpr ⟨cv1870 hg, (List.forall_mem_cons.mpr ⟨cv1596 hg, (fun _ h => absurd h List.not_mem_nil)⟩)⟩)
/-- LotBeliefs.Sentence.readIf -/
def ct1872 : sxCt := (45, 24, (1, [], [], [(0, .inl 1), (1, .inl 11)], [], [(1, (0, .ofNat 7), .inr (false, (0, .ofNat 0)))], []), [(1, 4), (1, 5), (1, 6), (1, 7), (1, 8), (1, 9), (1, 10)], [
  (3, [(1, .negSucc 9223372036854775807, .ofNat 9223372036854775807), (2, .ofNat 0, .ofNat 4)], [], [], [.inr (true, (1, .ofNat 0))], [(1, (0, .ofNat 3), .inr (false, (2, .ofNat 0))), (1, (0, .ofNat 7), .inr (false, (0, .ofNat 0)))], [])], [], 0, 0)
def cu1872 : List sxCu := []
set_option maxRecDepth 1000000 in
theorem cv1872 {gh : sxGh} (hg : sxGd sxKw gh) : sxCtV sxKw gh ct1872 := sxMeB_ok (cts := [ct1870, ct1596, ct1834]) (cuts := cu1872) (sp := []) 177 (by decide +kernel) hg (by decide) (by decide) (List.forall_mem_cons.mpr ⟨cv1870 hg, (List.forall_mem_cons.mpr ⟨cv1596 hg, (List.forall_mem_cons.mpr ⟨cv1834 hg, (fun _ h => absurd h List.not_mem_nil)⟩)⟩)⟩)
/-- LotBeliefs.Sentence.readEach -/
def ct1873 : sxCt := (42, 24, (1, [], [], [(0, .inl 1), (1, .inl 11)], [], [(1, (0, .ofNat 7), .inr (false, (0, .ofNat 1)))], []), [(1, 4), (1, 5), (1, 6), (1, 7), (1, 8), (1, 9), (1, 10)], [
  (3, [(1, .negSucc 9223372036854775807, .ofNat 9223372036854775807), (2, .ofNat 0, .ofNat 4)], [], [], [.inr (true, (1, .ofNat 0))], [(1, (0, .ofNat 3), .inr (false, (2, .ofNat 0))), (1, (0, .ofNat 7), .inr (false, (0, .ofNat 1)))], [])], [], 0, 0)
def cu1873 : List sxCu := [
  (9, (4, [(1, .negSucc 9223372036854775807, .ofNat 9223372036854775807), (2, .ofNat 0, .ofNat 600), (3, .ofNat 0, .ofNat 4)], [], [(0, .inl 1), (1, .inl 11), (2, .inr (true, (1, .ofNat 0))), (4, .inr (false, (2, .ofNat 0)))], [], [(1, (0, .ofNat 3), .inr (false, (3, .ofNat 0))), (1, (0, .ofNat 7), .inr (false, (0, .ofNat 1)))], []), ((0, 2, .ofNat 600), (0, 0, .ofNat 0), (0, 0, .ofNat 0)), 0, 0)]
set_option maxRecDepth 1000000 in
theorem cv1873 {gh : sxGh} (hg : sxGd sxKw gh) : sxCtV sxKw gh ct1873 := sxMeB_ok (cts := [ct1870, ct1596, ct1836]) (cuts := cu1873) (sp := []) 92 (by decide +kernel) hg (by decide) (by decide) (List.forall_mem_cons.mpr ⟨cv1870 hg, (List.forall_mem_cons.mpr ⟨cv1596 hg, (List.forall_mem_cons.mpr ⟨cv1836 hg, (fun _ h => absurd h List.not_mem_nil)⟩)⟩)⟩)
/-- LotBeliefs.Sentence.readEither -/
def ct1874 : sxCt := (41, 25, (1, [], [], [(0, .inl 1), (1, .inl 11)], [], [(1, (0, .ofNat 7), .inr (false, (0, .ofNat 1)))], []), [(1, 4), (1, 5), (1, 6), (1, 7), (1, 8), (1, 9), (1, 10)], [
  (3, [(1, .negSucc 9223372036854775807, .ofNat 9223372036854775807), (2, .ofNat 0, .ofNat 4)], [], [], [.inr (true, (1, .ofNat 0))], [(1, (0, .ofNat 3), .inr (false, (2, .ofNat 0))), (1, (0, .ofNat 7), .inr (false, (0, .ofNat 1)))], [])], [], 0, 0)
def cu1874 : List sxCu := [
  (9, (4, [(1, .negSucc 9223372036854775807, .ofNat 9223372036854775807), (2, .ofNat 0, .ofNat 600), (3, .ofNat 0, .ofNat 4)], [], [(0, .inl 1), (1, .inl 11), (2, .inr (true, (1, .ofNat 0))), (4, .inr (false, (2, .ofNat 0)))], [], [(1, (0, .ofNat 3), .inr (false, (3, .ofNat 0))), (1, (0, .ofNat 7), .inr (false, (0, .ofNat 1)))], []), ((0, 2, .ofNat 600), (0, 0, .ofNat 0), (0, 0, .ofNat 0)), 0, 0)]
set_option maxRecDepth 1000000 in
theorem cv1874 {gh : sxGh} (hg : sxGd sxKw gh) : sxCtV sxKw gh ct1874 := sxMeB_ok (cts := [ct1873, ct1596, ct1838]) (cuts := cu1874) (sp := []) 92 (by decide +kernel) hg (by decide) (by decide) (List.forall_mem_cons.mpr ⟨cv1873 hg, (List.forall_mem_cons.mpr ⟨cv1596 hg, (List.forall_mem_cons.mpr ⟨cv1838 hg, (fun _ h => absurd h List.not_mem_nil)⟩)⟩)⟩)
/-- LotBeliefs.Sentence.readBrackets -/
def ct1875 : sxCt := (46, 26, (1, [], [], [(0, .inl 1), (1, .inl 11)], [], [(1, (0, .ofNat 7), .inr (false, (0, .ofNat 0)))], []), [(1, 4), (1, 5), (1, 6), (1, 7), (1, 8), (1, 9), (1, 10)], [
  (3, [(1, .negSucc 9223372036854775807, .ofNat 9223372036854775807), (2, .ofNat 0, .ofNat 4)], [], [], [.inr (true, (1, .ofNat 0))], [(1, (0, .ofNat 3), .inr (false, (2, .ofNat 0))), (1, (0, .ofNat 7), .inr (false, (0, .ofNat 0)))], [])], [], 0, 0)
def cu1875 : List sxCu := []
set_option maxRecDepth 1000000 in
theorem cv1875 {gh : sxGh} (hg : sxGd sxKw gh) : sxCtV sxKw gh ct1875 := sxMeB_ok (cts := [ct1874, ct1596]) (cuts := cu1875) (sp := []) 196 (by decide +kernel) hg (by decide) (by decide) (List.forall_mem_cons.mpr ⟨cv1874 hg, (List.forall_mem_cons.mpr ⟨cv1596 hg, (fun _ h => absurd h List.not_mem_nil)⟩)⟩)
/-- LotBeliefs.Sentence.readAtom -/
def ct1876 : sxCt := (47, 1, (1, [], [], [(0, .inl 1), (1, .inl 11)], [], [(1, (0, .ofNat 7), .inr (false, (0, .ofNat 0)))], []), [(1, 4), (1, 5), (1, 6), (1, 7), (1, 9), (1, 10)], [
  (3, [(1, .negSucc 9223372036854775807, .ofNat 9223372036854775807), (2, .ofNat 0, .ofNat 4)], [], [], [.inr (true, (1, .ofNat 0))], [(1, (0, .ofNat 3), .inr (false, (2, .ofNat 0))), (1, (0, .ofNat 7), .inr (false, (0, .ofNat 0)))], [])], [], 0, 0)
def cu1876 : List sxCu := []
set_option maxRecDepth 1000000 in
theorem cv1876 {gh : sxGh} (hg : sxGd sxKw gh) : sxCtV sxKw gh ct1876 := sxMeB_ok (cts := [ct1596]) (cuts := cu1876) (sp := []) 222 (by decide +kernel) hg (by decide) (by decide) (List.forall_mem_cons.mpr ⟨cv1596 hg, (fun _ h => absurd h List.not_mem_nil)⟩)
/-- LotBeliefs.Sentence.readPart -/
def ct1877 : sxCt := (43, 27, (1, [], [], [(0, .inl 1), (1, .inl 11)], [], [(1, (0, .ofNat 7), .inr (false, (0, .ofNat 0)))], []), [(1, 4), (1, 5), (1, 6), (1, 7), (1, 8), (1, 9), (1, 10)], [
  (3, [(1, .negSucc 9223372036854775807, .ofNat 9223372036854775807), (2, .ofNat 0, .ofNat 4)], [], [], [.inr (true, (1, .ofNat 0))], [(1, (0, .ofNat 3), .inr (false, (2, .ofNat 0))), (1, (0, .ofNat 7), .inr (false, (0, .ofNat 0)))], [])], [], 0, 0)
def cu1877 : List sxCu := []
set_option maxRecDepth 1000000 in
theorem cv1877 {gh : sxGh} (hg : sxGd sxKw gh) : sxCtV sxKw gh ct1877 := sxMeB_ok (cts := [ct1871, ct1872, ct1875, ct1876, ct1826, ct1828]) (cuts := cu1877) (sp := []) 118 (by decide +kernel) hg (by decide) (by decide) (List.forall_mem_cons.mpr ⟨cv1871 hg, (List.forall_mem_cons.mpr ⟨cv1872 hg, (List.forall_mem_cons.mpr ⟨cv1875 hg, (List.forall_mem_cons.mpr ⟨cv1876 hg, (List.forall_mem_cons.mpr ⟨cv1826 hg, (List.forall_mem_cons.mpr ⟨cv1828 hg, (fun _ h => absurd h List.not_mem_nil)⟩)⟩)⟩)⟩)⟩)⟩)
/-- LotBeliefs.Sentence.readEach -/
def ct1878 : sxCt := (42, 28, (1, [], [], [(0, .inl 1), (1, .inl 11)], [], [(1, (0, .ofNat 7), .inr (false, (0, .ofNat 0)))], []), [(1, 4), (1, 5), (1, 6), (1, 7), (1, 8), (1, 9), (1, 10)], [
  (3, [(1, .negSucc 9223372036854775807, .ofNat 9223372036854775807), (2, .ofNat 0, .ofNat 4)], [], [], [.inr (true, (1, .ofNat 0))], [(1, (0, .ofNat 3), .inr (false, (2, .ofNat 0))), (1, (0, .ofNat 7), .inr (false, (0, .ofNat 0)))], [])], [], 0, 0)
def cu1878 : List sxCu := [
  (9, (4, [(1, .negSucc 9223372036854775807, .ofNat 9223372036854775807), (2, .ofNat 0, .ofNat 600), (3, .ofNat 0, .ofNat 4)], [], [(0, .inl 1), (1, .inl 11), (2, .inr (true, (1, .ofNat 0))), (4, .inr (false, (2, .ofNat 0)))], [], [(1, (0, .ofNat 3), .inr (false, (3, .ofNat 0))), (1, (0, .ofNat 7), .inr (false, (0, .ofNat 0)))], []), ((0, 2, .ofNat 600), (0, 0, .ofNat 0), (0, 0, .ofNat 0)), 0, 0)]
set_option maxRecDepth 1000000 in
theorem cv1878 {gh : sxGh} (hg : sxGd sxKw gh) : sxCtV sxKw gh ct1878 := sxMeB_ok (cts := [ct1877, ct1596, ct1836]) (cuts := cu1878) (sp := []) 92 (by decide +kernel) hg (by decide) (by decide) (List.forall_mem_cons.mpr ⟨cv1877 hg, (List.forall_mem_cons.mpr ⟨cv1596 hg, (List.forall_mem_cons.mpr ⟨cv1836 hg, (fun _ h => absurd h List.not_mem_nil)⟩)⟩)⟩)
/-- LotBeliefs.Sentence.readEither -/
def ct1879 : sxCt := (41, 29, (1, [], [], [(0, .inl 1), (1, .inl 11)], [], [(1, (0, .ofNat 7), .inr (false, (0, .ofNat 0)))], []), [(1, 4), (1, 5), (1, 6), (1, 7), (1, 8), (1, 9), (1, 10)], [
  (3, [(1, .negSucc 9223372036854775807, .ofNat 9223372036854775807), (2, .ofNat 0, .ofNat 4)], [], [], [.inr (true, (1, .ofNat 0))], [(1, (0, .ofNat 3), .inr (false, (2, .ofNat 0))), (1, (0, .ofNat 7), .inr (false, (0, .ofNat 0)))], [])], [], 0, 0)
def cu1879 : List sxCu := [
  (9, (4, [(1, .negSucc 9223372036854775807, .ofNat 9223372036854775807), (2, .ofNat 0, .ofNat 600), (3, .ofNat 0, .ofNat 4)], [], [(0, .inl 1), (1, .inl 11), (2, .inr (true, (1, .ofNat 0))), (4, .inr (false, (2, .ofNat 0)))], [], [(1, (0, .ofNat 3), .inr (false, (3, .ofNat 0))), (1, (0, .ofNat 7), .inr (false, (0, .ofNat 0)))], []), ((0, 2, .ofNat 600), (0, 0, .ofNat 0), (0, 0, .ofNat 0)), 0, 0)]
set_option maxRecDepth 1000000 in
theorem cv1879 {gh : sxGh} (hg : sxGd sxKw gh) : sxCtV sxKw gh ct1879 := sxMeB_ok (cts := [ct1878, ct1596, ct1838]) (cuts := cu1879) (sp := []) 92 (by decide +kernel) hg (by decide) (by decide) (List.forall_mem_cons.mpr ⟨cv1878 hg, (List.forall_mem_cons.mpr ⟨cv1596 hg, (List.forall_mem_cons.mpr ⟨cv1838 hg, (fun _ h => absurd h List.not_mem_nil)⟩)⟩)⟩)
/-- LotBeliefs.Sentence.readAlone -/
def ct1880 : sxCt := (40, 30, (1, [], [], [(0, .inl 1), (1, .inl 11)], [], [(1, (0, .ofNat 7), .inr (false, (0, .ofNat 0)))], []), [(1, 4), (1, 5), (1, 6), (1, 7), (1, 8), (1, 9), (1, 10)], [
  (3, [(1, .negSucc 9223372036854775807, .ofNat 9223372036854775807), (2, .ofNat 0, .ofNat 4)], [], [], [.inr (true, (1, .ofNat 0))], [(1, (0, .ofNat 3), .inr (false, (2, .ofNat 0))), (1, (0, .ofNat 7), .inr (false, (0, .ofNat 0)))], [])], [], 0, 0)
def cu1880 : List sxCu := []
set_option maxRecDepth 1000000 in
theorem cv1880 {gh : sxGh} (hg : sxGd sxKw gh) : sxCtV sxKw gh ct1880 := sxMeB_ok (cts := [ct1879]) (cuts := cu1880) (sp := []) 108 (by decide +kernel) hg (by decide) (by decide) (List.forall_mem_cons.mpr ⟨cv1879 hg, (fun _ h => absurd h List.not_mem_nil)⟩)
/-- LotBeliefs.Sentence.readNot -/
def ct1881 : sxCt := (44, 2, (1, [], [], [(0, .inl 1), (1, .inl 3)], [], [(1, (0, .ofNat 7), .inr (false, (0, .ofNat 6)))], []), [(1, 4), (1, 9), (1, 10)], [
  (1, [], [], [], [.inr (true, (0, .ofNat 0))], [(1, (0, .ofNat 3), .inr (false, (0, .ofNat 4))), (1, (0, .ofNat 7), .inr (false, (0, .ofNat 6)))], [])], [], 0, 0)
def cu1881 : List sxCu := []
set_option maxRecDepth 1000000 in
theorem cv1881 {gh : sxGh} (hg : sxGd sxKw gh) : sxCtV sxKw gh ct1881 := sxMeB_ok (cts := []) (cuts := cu1881) (sp := []) 95 (by decide +kernel) hg (by decide) (by decide) (fun _ h => absurd h List.not_mem_nil)
/-- LotBeliefs.Sentence.readIf -/
def ct1882 : sxCt := (45, 2, (1, [], [], [(0, .inl 1), (1, .inl 3)], [], [(1, (0, .ofNat 7), .inr (false, (0, .ofNat 6)))], []), [(1, 4), (1, 9), (1, 10)], [
  (1, [], [], [], [.inr (true, (0, .ofNat 0))], [(1, (0, .ofNat 3), .inr (false, (0, .ofNat 4))), (1, (0, .ofNat 7), .inr (false, (0, .ofNat 6)))], [])], [], 0, 0)
def cu1882 : List sxCu := []
set_option maxRecDepth 1000000 in
theorem cv1882 {gh : sxGh} (hg : sxGd sxKw gh) : sxCtV sxKw gh ct1882 := sxMeB_ok (cts := []) (cuts := cu1882) (sp := []) 95 (by decide +kernel) hg (by decide) (by decide) (fun _ h => absurd h List.not_mem_nil)
/-- LotBeliefs.Sentence.readBrackets -/
def ct1883 : sxCt := (46, 2, (1, [], [], [(0, .inl 1), (1, .inl 3)], [], [(1, (0, .ofNat 7), .inr (false, (0, .ofNat 6)))], []), [(1, 4), (1, 9), (1, 10)], [
  (1, [], [], [], [.inr (true, (0, .ofNat 0))], [(1, (0, .ofNat 3), .inr (false, (0, .ofNat 4))), (1, (0, .ofNat 7), .inr (false, (0, .ofNat 6)))], [])], [], 0, 0)
def cu1883 : List sxCu := []
set_option maxRecDepth 1000000 in
theorem cv1883 {gh : sxGh} (hg : sxGd sxKw gh) : sxCtV sxKw gh ct1883 := sxMeB_ok (cts := []) (cuts := cu1883) (sp := []) 95 (by decide +kernel) hg (by decide) (by decide) (fun _ h => absurd h List.not_mem_nil)
/-- LotBeliefs.Sentence.readAtom -/
def ct1884 : sxCt := (47, 1, (1, [], [], [(0, .inl 1), (1, .inl 3)], [], [(1, (0, .ofNat 7), .inr (false, (0, .ofNat 6)))], []), [(1, 4), (1, 5), (1, 6), (1, 7), (1, 9), (1, 10)], [
  (3, [(1, .negSucc 9223372036854775807, .ofNat 9223372036854775807), (2, .ofNat 0, .ofNat 4)], [], [], [.inr (true, (1, .ofNat 0))], [(1, (0, .ofNat 3), .inr (false, (2, .ofNat 0))), (1, (0, .ofNat 7), .inr (false, (0, .ofNat 6)))], [])], [], 0, 0)
def cu1884 : List sxCu := []
set_option maxRecDepth 1000000 in
theorem cv1884 {gh : sxGh} (hg : sxGd sxKw gh) : sxCtV sxKw gh ct1884 := sxMeB_ok (cts := [ct1596]) (cuts := cu1884) (sp := []) 222 (by decide +kernel) hg (by decide) (by decide) (List.forall_mem_cons.mpr ⟨cv1596 hg, (fun _ h => absurd h List.not_mem_nil)⟩)
/-- LotBeliefs.Sentence.readPart -/
def ct1885 : sxCt := (43, 3, (1, [], [], [(0, .inl 1), (1, .inl 3)], [], [(1, (0, .ofNat 7), .inr (false, (0, .ofNat 6)))], []), [(1, 4), (1, 5), (1, 6), (1, 7), (1, 9), (1, 10)], [
  (3, [(1, .negSucc 9223372036854775807, .ofNat 9223372036854775807), (2, .ofNat 0, .ofNat 4)], [], [], [.inr (true, (1, .ofNat 0))], [(1, (0, .ofNat 3), .inr (false, (2, .ofNat 0))), (1, (0, .ofNat 7), .inr (false, (0, .ofNat 6)))], [])], [], 0, 0)
def cu1885 : List sxCu := []
set_option maxRecDepth 1000000 in
theorem cv1885 {gh : sxGh} (hg : sxGd sxKw gh) : sxCtV sxKw gh ct1885 := sxMeB_ok (cts := [ct1881, ct1882, ct1883, ct1884, ct1826, ct1828]) (cuts := cu1885) (sp := []) 118 (by decide +kernel) hg (by decide) (by decide) (List.forall_mem_cons.mpr ⟨cv1881 hg, (List.forall_mem_cons.mpr ⟨cv1882 hg, (List.forall_mem_cons.mpr ⟨cv1883 hg, (List.forall_mem_cons.mpr ⟨cv1884 hg, (List.forall_mem_cons.mpr ⟨cv1826 hg, (List.forall_mem_cons.mpr ⟨cv1828 hg, (fun _ h => absurd h List.not_mem_nil)⟩)⟩)⟩)⟩)⟩)⟩)
/-- LotBeliefs.Sentence.readNot -/
def ct1886 : sxCt := (44, 4, (1, [], [], [(0, .inl 1), (1, .inl 3)], [], [(1, (0, .ofNat 7), .inr (false, (0, .ofNat 5)))], []), [(1, 4), (1, 5), (1, 6), (1, 7), (1, 8), (1, 9), (1, 10)], [
  (3, [(1, .negSucc 9223372036854775807, .ofNat 9223372036854775807), (2, .ofNat 0, .ofNat 4)], [], [], [.inr (true, (1, .ofNat 0))], [(1, (0, .ofNat 3), .inr (false, (2, .ofNat 0))), (1, (0, .ofNat 7), .inr (false, (0, .ofNat 5)))], [])], [], 0, 0)
def cu1886 : List sxCu := []
set_option maxRecDepth 1000000 in
theorem cv1886 {gh : sxGh} (hg : sxGd sxKw gh) : sxCtV sxKw gh ct1886 := sxMeB_ok (cts := [ct1885, ct1596]) (cuts := cu1886) (sp := []) 99 (by decide +kernel) hg (by decide) (by decide) (List.forall_mem_cons.mpr ⟨cv1885 hg, (List.forall_mem_cons.mpr ⟨cv1596 hg, (fun _ h => absurd h List.not_mem_nil)⟩)⟩)
/-- LotBeliefs.Sentence.readIf -/
def ct1887 : sxCt := (45, 4, (1, [], [], [(0, .inl 1), (1, .inl 3)], [], [(1, (0, .ofNat 7), .inr (false, (0, .ofNat 5)))], []), [(1, 4), (1, 5), (1, 6), (1, 7), (1, 8), (1, 9), (1, 10)], [
  (3, [(1, .negSucc 9223372036854775807, .ofNat 9223372036854775807), (2, .ofNat 0, .ofNat 4)], [], [], [.inr (true, (1, .ofNat 0))], [(1, (0, .ofNat 3), .inr (false, (2, .ofNat 0))), (1, (0, .ofNat 7), .inr (false, (0, .ofNat 5)))], [])], [], 0, 0)
def cu1887 : List sxCu := []
set_option maxRecDepth 1000000 in
theorem cv1887 {gh : sxGh} (hg : sxGd sxKw gh) : sxCtV sxKw gh ct1887 := sxMeB_ok (cts := [ct1885, ct1596, ct1834]) (cuts := cu1887) (sp := []) 177 (by decide +kernel) hg (by decide) (by decide) (List.forall_mem_cons.mpr ⟨cv1885 hg, (List.forall_mem_cons.mpr ⟨cv1596 hg, (List.forall_mem_cons.mpr ⟨cv1834 hg, (fun _ h => absurd h List.not_mem_nil)⟩)⟩)⟩)
/-- LotBeliefs.Sentence.readEach -/
def ct1888 : sxCt := (42, 4, (1, [], [], [(0, .inl 1), (1, .inl 3)], [], [(1, (0, .ofNat 7), .inr (false, (0, .ofNat 6)))], []), [(1, 4), (1, 5), (1, 6), (1, 7), (1, 9), (1, 10)], [
  (3, [(1, .negSucc 9223372036854775807, .ofNat 9223372036854775807), (2, .ofNat 0, .ofNat 4)], [], [], [.inr (true, (1, .ofNat 0))], [(1, (0, .ofNat 3), .inr (false, (2, .ofNat 0))), (1, (0, .ofNat 7), .inr (false, (0, .ofNat 6)))], [])], [], 0, 0)
def cu1888 : List sxCu := [
  (9, (4, [(1, .negSucc 9223372036854775807, .ofNat 9223372036854775807), (2, .ofNat 0, .ofNat 600), (3, .ofNat 0, .ofNat 4)], [], [(0, .inl 1), (1, .inl 3), (2, .inr (true, (1, .ofNat 0))), (4, .inr (false, (2, .ofNat 0)))], [], [(1, (0, .ofNat 3), .inr (false, (3, .ofNat 0))), (1, (0, .ofNat 7), .inr (false, (0, .ofNat 6)))], []), ((0, 2, .ofNat 600), (0, 0, .ofNat 0), (0, 0, .ofNat 0)), 0, 0)]
set_option maxRecDepth 1000000 in
theorem cv1888 {gh : sxGh} (hg : sxGd sxKw gh) : sxCtV sxKw gh ct1888 := sxMeB_ok (cts := [ct1885, ct1596, ct1836]) (cuts := cu1888) (sp := []) 92 (by decide +kernel) hg (by decide) (by decide) (List.forall_mem_cons.mpr ⟨cv1885 hg, (List.forall_mem_cons.mpr ⟨cv1596 hg, (List.forall_mem_cons.mpr ⟨cv1836 hg, (fun _ h => absurd h List.not_mem_nil)⟩)⟩)⟩)
/-- LotBeliefs.Sentence.readEither -/
def ct1889 : sxCt := (41, 5, (1, [], [], [(0, .inl 1), (1, .inl 3)], [], [(1, (0, .ofNat 7), .inr (false, (0, .ofNat 6)))], []), [(1, 4), (1, 5), (1, 6), (1, 7), (1, 9), (1, 10)], [
  (3, [(1, .negSucc 9223372036854775807, .ofNat 9223372036854775807), (2, .ofNat 0, .ofNat 4)], [], [], [.inr (true, (1, .ofNat 0))], [(1, (0, .ofNat 3), .inr (false, (2, .ofNat 0))), (1, (0, .ofNat 7), .inr (false, (0, .ofNat 6)))], [])], [], 0, 0)
def cu1889 : List sxCu := [
  (9, (4, [(1, .negSucc 9223372036854775807, .ofNat 9223372036854775807), (2, .ofNat 0, .ofNat 600), (3, .ofNat 0, .ofNat 4)], [], [(0, .inl 1), (1, .inl 3), (2, .inr (true, (1, .ofNat 0))), (4, .inr (false, (2, .ofNat 0)))], [], [(1, (0, .ofNat 3), .inr (false, (3, .ofNat 0))), (1, (0, .ofNat 7), .inr (false, (0, .ofNat 6)))], []), ((0, 2, .ofNat 600), (0, 0, .ofNat 0), (0, 0, .ofNat 0)), 0, 0)]
set_option maxRecDepth 1000000 in
theorem cv1889 {gh : sxGh} (hg : sxGd sxKw gh) : sxCtV sxKw gh ct1889 := sxMeB_ok (cts := [ct1888, ct1596, ct1838]) (cuts := cu1889) (sp := []) 92 (by decide +kernel) hg (by decide) (by decide) (List.forall_mem_cons.mpr ⟨cv1888 hg, (List.forall_mem_cons.mpr ⟨cv1596 hg, (List.forall_mem_cons.mpr ⟨cv1838 hg, (fun _ h => absurd h List.not_mem_nil)⟩)⟩)⟩)
/-- LotBeliefs.Sentence.readBrackets -/
def ct1890 : sxCt := (46, 6, (1, [], [], [(0, .inl 1), (1, .inl 3)], [], [(1, (0, .ofNat 7), .inr (false, (0, .ofNat 5)))], []), [(1, 4), (1, 5), (1, 6), (1, 7), (1, 8), (1, 9), (1, 10)], [
  (3, [(1, .negSucc 9223372036854775807, .ofNat 9223372036854775807), (2, .ofNat 0, .ofNat 4)], [], [], [.inr (true, (1, .ofNat 0))], [(1, (0, .ofNat 3), .inr (false, (2, .ofNat 0))), (1, (0, .ofNat 7), .inr (false, (0, .ofNat 5)))], [])], [], 0, 0)
def cu1890 : List sxCu := []
set_option maxRecDepth 1000000 in
theorem cv1890 {gh : sxGh} (hg : sxGd sxKw gh) : sxCtV sxKw gh ct1890 := sxMeB_ok (cts := [ct1889, ct1596]) (cuts := cu1890) (sp := []) 196 (by decide +kernel) hg (by decide) (by decide) (List.forall_mem_cons.mpr ⟨cv1889 hg, (List.forall_mem_cons.mpr ⟨cv1596 hg, (fun _ h => absurd h List.not_mem_nil)⟩)⟩)
/-- LotBeliefs.Sentence.readAtom -/
def ct1891 : sxCt := (47, 1, (1, [], [], [(0, .inl 1), (1, .inl 3)], [], [(1, (0, .ofNat 7), .inr (false, (0, .ofNat 5)))], []), [(1, 4), (1, 5), (1, 6), (1, 7), (1, 9), (1, 10)], [
  (3, [(1, .negSucc 9223372036854775807, .ofNat 9223372036854775807), (2, .ofNat 0, .ofNat 4)], [], [], [.inr (true, (1, .ofNat 0))], [(1, (0, .ofNat 3), .inr (false, (2, .ofNat 0))), (1, (0, .ofNat 7), .inr (false, (0, .ofNat 5)))], [])], [], 0, 0)
def cu1891 : List sxCu := []
set_option maxRecDepth 1000000 in
theorem cv1891 {gh : sxGh} (hg : sxGd sxKw gh) : sxCtV sxKw gh ct1891 := sxMeB_ok (cts := [ct1596]) (cuts := cu1891) (sp := []) 222 (by decide +kernel) hg (by decide) (by decide) (List.forall_mem_cons.mpr ⟨cv1596 hg, (fun _ h => absurd h List.not_mem_nil)⟩)
/-- LotBeliefs.Sentence.readPart -/
def ct1892 : sxCt := (43, 7, (1, [], [], [(0, .inl 1), (1, .inl 3)], [], [(1, (0, .ofNat 7), .inr (false, (0, .ofNat 5)))], []), [(1, 4), (1, 5), (1, 6), (1, 7), (1, 8), (1, 9), (1, 10)], [
  (3, [(1, .negSucc 9223372036854775807, .ofNat 9223372036854775807), (2, .ofNat 0, .ofNat 4)], [], [], [.inr (true, (1, .ofNat 0))], [(1, (0, .ofNat 3), .inr (false, (2, .ofNat 0))), (1, (0, .ofNat 7), .inr (false, (0, .ofNat 5)))], [])], [], 0, 0)
def cu1892 : List sxCu := []
set_option maxRecDepth 1000000 in
theorem cv1892 {gh : sxGh} (hg : sxGd sxKw gh) : sxCtV sxKw gh ct1892 := sxMeB_ok (cts := [ct1886, ct1887, ct1890, ct1891, ct1826, ct1828]) (cuts := cu1892) (sp := []) 118 (by decide +kernel) hg (by decide) (by decide) (List.forall_mem_cons.mpr ⟨cv1886 hg, (List.forall_mem_cons.mpr ⟨cv1887 hg, (List.forall_mem_cons.mpr ⟨cv1890 hg, (List.forall_mem_cons.mpr ⟨cv1891 hg, (List.forall_mem_cons.mpr ⟨cv1826 hg, (List.forall_mem_cons.mpr ⟨cv1828 hg, (fun _ h => absurd h List.not_mem_nil)⟩)⟩)⟩)⟩)⟩)⟩)
/-- LotBeliefs.Sentence.readNot -/
def ct1893 : sxCt := (44, 8, (1, [], [], [(0, .inl 1), (1, .inl 3)], [], [(1, (0, .ofNat 7), .inr (false, (0, .ofNat 4)))], []), [(1, 4), (1, 5), (1, 6), (1, 7), (1, 8), (1, 9), (1, 10)], [
  (3, [(1, .negSucc 9223372036854775807, .ofNat 9223372036854775807), (2, .ofNat 0, .ofNat 4)], [], [], [.inr (true, (1, .ofNat 0))], [(1, (0, .ofNat 3), .inr (false, (2, .ofNat 0))), (1, (0, .ofNat 7), .inr (false, (0, .ofNat 4)))], [])], [], 0, 0)
def cu1893 : List sxCu := []
set_option maxRecDepth 1000000 in
theorem cv1893 {gh : sxGh} (hg : sxGd sxKw gh) : sxCtV sxKw gh ct1893 := sxMeB_ok (cts := [ct1892, ct1596]) (cuts := cu1893) (sp := []) 99 (by decide +kernel) hg (by decide) (by decide) (List.forall_mem_cons.mpr ⟨cv1892 hg, (List.forall_mem_cons.mpr ⟨cv1596 hg, (fun _ h => absurd h List.not_mem_nil)⟩)⟩)
/-- LotBeliefs.Sentence.readIf -/
def ct1894 : sxCt := (45, 8, (1, [], [], [(0, .inl 1), (1, .inl 3)], [], [(1, (0, .ofNat 7), .inr (false, (0, .ofNat 4)))], []), [(1, 4), (1, 5), (1, 6), (1, 7), (1, 8), (1, 9), (1, 10)], [
  (3, [(1, .negSucc 9223372036854775807, .ofNat 9223372036854775807), (2, .ofNat 0, .ofNat 4)], [], [], [.inr (true, (1, .ofNat 0))], [(1, (0, .ofNat 3), .inr (false, (2, .ofNat 0))), (1, (0, .ofNat 7), .inr (false, (0, .ofNat 4)))], [])], [], 0, 0)
def cu1894 : List sxCu := []
set_option maxRecDepth 1000000 in
theorem cv1894 {gh : sxGh} (hg : sxGd sxKw gh) : sxCtV sxKw gh ct1894 := sxMeB_ok (cts := [ct1892, ct1596, ct1834]) (cuts := cu1894) (sp := []) 177 (by decide +kernel) hg (by decide) (by decide) (List.forall_mem_cons.mpr ⟨cv1892 hg, (List.forall_mem_cons.mpr ⟨cv1596 hg, (List.forall_mem_cons.mpr ⟨cv1834 hg, (fun _ h => absurd h List.not_mem_nil)⟩)⟩)⟩)
/-- LotBeliefs.Sentence.readEach -/
def ct1895 : sxCt := (42, 8, (1, [], [], [(0, .inl 1), (1, .inl 3)], [], [(1, (0, .ofNat 7), .inr (false, (0, .ofNat 5)))], []), [(1, 4), (1, 5), (1, 6), (1, 7), (1, 8), (1, 9), (1, 10)], [
  (3, [(1, .negSucc 9223372036854775807, .ofNat 9223372036854775807), (2, .ofNat 0, .ofNat 4)], [], [], [.inr (true, (1, .ofNat 0))], [(1, (0, .ofNat 3), .inr (false, (2, .ofNat 0))), (1, (0, .ofNat 7), .inr (false, (0, .ofNat 5)))], [])], [], 0, 0)
def cu1895 : List sxCu := [
  (9, (4, [(1, .negSucc 9223372036854775807, .ofNat 9223372036854775807), (2, .ofNat 0, .ofNat 600), (3, .ofNat 0, .ofNat 4)], [], [(0, .inl 1), (1, .inl 3), (2, .inr (true, (1, .ofNat 0))), (4, .inr (false, (2, .ofNat 0)))], [], [(1, (0, .ofNat 3), .inr (false, (3, .ofNat 0))), (1, (0, .ofNat 7), .inr (false, (0, .ofNat 5)))], []), ((0, 2, .ofNat 600), (0, 0, .ofNat 0), (0, 0, .ofNat 0)), 0, 0)]
set_option maxRecDepth 1000000 in
theorem cv1895 {gh : sxGh} (hg : sxGd sxKw gh) : sxCtV sxKw gh ct1895 := sxMeB_ok (cts := [ct1892, ct1596, ct1836]) (cuts := cu1895) (sp := []) 92 (by decide +kernel) hg (by decide) (by decide) (List.forall_mem_cons.mpr ⟨cv1892 hg, (List.forall_mem_cons.mpr ⟨cv1596 hg, (List.forall_mem_cons.mpr ⟨cv1836 hg, (fun _ h => absurd h List.not_mem_nil)⟩)⟩)⟩)
/-- LotBeliefs.Sentence.readEither -/
def ct1896 : sxCt := (41, 9, (1, [], [], [(0, .inl 1), (1, .inl 3)], [], [(1, (0, .ofNat 7), .inr (false, (0, .ofNat 5)))], []), [(1, 4), (1, 5), (1, 6), (1, 7), (1, 8), (1, 9), (1, 10)], [
  (3, [(1, .negSucc 9223372036854775807, .ofNat 9223372036854775807), (2, .ofNat 0, .ofNat 4)], [], [], [.inr (true, (1, .ofNat 0))], [(1, (0, .ofNat 3), .inr (false, (2, .ofNat 0))), (1, (0, .ofNat 7), .inr (false, (0, .ofNat 5)))], [])], [], 0, 0)
def cu1896 : List sxCu := [
  (9, (4, [(1, .negSucc 9223372036854775807, .ofNat 9223372036854775807), (2, .ofNat 0, .ofNat 600), (3, .ofNat 0, .ofNat 4)], [], [(0, .inl 1), (1, .inl 3), (2, .inr (true, (1, .ofNat 0))), (4, .inr (false, (2, .ofNat 0)))], [], [(1, (0, .ofNat 3), .inr (false, (3, .ofNat 0))), (1, (0, .ofNat 7), .inr (false, (0, .ofNat 5)))], []), ((0, 2, .ofNat 600), (0, 0, .ofNat 0), (0, 0, .ofNat 0)), 0, 0)]
set_option maxRecDepth 1000000 in
theorem cv1896 {gh : sxGh} (hg : sxGd sxKw gh) : sxCtV sxKw gh ct1896 := sxMeB_ok (cts := [ct1895, ct1596, ct1838]) (cuts := cu1896) (sp := []) 92 (by decide +kernel) hg (by decide) (by decide) (List.forall_mem_cons.mpr ⟨cv1895 hg, (List.forall_mem_cons.mpr ⟨cv1596 hg, (List.forall_mem_cons.mpr ⟨cv1838 hg, (fun _ h => absurd h List.not_mem_nil)⟩)⟩)⟩)
/-- LotBeliefs.Sentence.readBrackets -/
def ct1897 : sxCt := (46, 10, (1, [], [], [(0, .inl 1), (1, .inl 3)], [], [(1, (0, .ofNat 7), .inr (false, (0, .ofNat 4)))], []), [(1, 4), (1, 5), (1, 6), (1, 7), (1, 8), (1, 9), (1, 10)], [
  (3, [(1, .negSucc 9223372036854775807, .ofNat 9223372036854775807), (2, .ofNat 0, .ofNat 4)], [], [], [.inr (true, (1, .ofNat 0))], [(1, (0, .ofNat 3), .inr (false, (2, .ofNat 0))), (1, (0, .ofNat 7), .inr (false, (0, .ofNat 4)))], [])], [], 0, 0)
def cu1897 : List sxCu := []
set_option maxRecDepth 1000000 in
theorem cv1897 {gh : sxGh} (hg : sxGd sxKw gh) : sxCtV sxKw gh ct1897 := sxMeB_ok (cts := [ct1896, ct1596]) (cuts := cu1897) (sp := []) 196 (by decide +kernel) hg (by decide) (by decide) (List.forall_mem_cons.mpr ⟨cv1896 hg, (List.forall_mem_cons.mpr ⟨cv1596 hg, (fun _ h => absurd h List.not_mem_nil)⟩)⟩)
/-- LotBeliefs.Sentence.readAtom -/
def ct1898 : sxCt := (47, 1, (1, [], [], [(0, .inl 1), (1, .inl 3)], [], [(1, (0, .ofNat 7), .inr (false, (0, .ofNat 4)))], []), [(1, 4), (1, 5), (1, 6), (1, 7), (1, 9), (1, 10)], [
  (3, [(1, .negSucc 9223372036854775807, .ofNat 9223372036854775807), (2, .ofNat 0, .ofNat 4)], [], [], [.inr (true, (1, .ofNat 0))], [(1, (0, .ofNat 3), .inr (false, (2, .ofNat 0))), (1, (0, .ofNat 7), .inr (false, (0, .ofNat 4)))], [])], [], 0, 0)
def cu1898 : List sxCu := []
set_option maxRecDepth 1000000 in
theorem cv1898 {gh : sxGh} (hg : sxGd sxKw gh) : sxCtV sxKw gh ct1898 := sxMeB_ok (cts := [ct1596]) (cuts := cu1898) (sp := []) 222 (by decide +kernel) hg (by decide) (by decide) (List.forall_mem_cons.mpr ⟨cv1596 hg, (fun _ h => absurd h List.not_mem_nil)⟩)
/-- LotBeliefs.Sentence.readPart -/
def ct1899 : sxCt := (43, 11, (1, [], [], [(0, .inl 1), (1, .inl 3)], [], [(1, (0, .ofNat 7), .inr (false, (0, .ofNat 4)))], []), [(1, 4), (1, 5), (1, 6), (1, 7), (1, 8), (1, 9), (1, 10)], [
  (3, [(1, .negSucc 9223372036854775807, .ofNat 9223372036854775807), (2, .ofNat 0, .ofNat 4)], [], [], [.inr (true, (1, .ofNat 0))], [(1, (0, .ofNat 3), .inr (false, (2, .ofNat 0))), (1, (0, .ofNat 7), .inr (false, (0, .ofNat 4)))], [])], [], 0, 0)
def cu1899 : List sxCu := []
set_option maxRecDepth 1000000 in
theorem cv1899 {gh : sxGh} (hg : sxGd sxKw gh) : sxCtV sxKw gh ct1899 := sxMeB_ok (cts := [ct1893, ct1894, ct1897, ct1898, ct1826, ct1828]) (cuts := cu1899) (sp := []) 118 (by decide +kernel) hg (by decide) (by decide) (List.forall_mem_cons.mpr ⟨cv1893 hg, (List.forall_mem_cons.mpr ⟨cv1894 hg, (List.forall_mem_cons.mpr ⟨cv1897 hg, (List.forall_mem_cons.mpr ⟨cv1898 hg, (List.forall_mem_cons.mpr ⟨cv1826 hg, (List.forall_mem_cons.mpr ⟨cv1828 hg, (fun _ h => absurd h List.not_mem_nil)⟩)⟩)⟩)⟩)⟩)⟩)
/-- LotBeliefs.Sentence.readNot -/
def ct1900 : sxCt := (44, 12, (1, [], [], [(0, .inl 1), (1, .inl 3)], [], [(1, (0, .ofNat 7), .inr (false, (0, .ofNat 3)))], []), [(1, 4), (1, 5), (1, 6), (1, 7), (1, 8), (1, 9), (1, 10)], [
  (3, [(1, .negSucc 9223372036854775807, .ofNat 9223372036854775807), (2, .ofNat 0, .ofNat 4)], [], [], [.inr (true, (1, .ofNat 0))], [(1, (0, .ofNat 3), .inr (false, (2, .ofNat 0))), (1, (0, .ofNat 7), .inr (false, (0, .ofNat 3)))], [])], [], 0, 0)
def cu1900 : List sxCu := []
set_option maxRecDepth 1000000 in
theorem cv1900 {gh : sxGh} (hg : sxGd sxKw gh) : sxCtV sxKw gh ct1900 := sxMeB_ok (cts := [ct1899, ct1596]) (cuts := cu1900) (sp := []) 99 (by decide +kernel) hg (by decide) (by decide) (List.forall_mem_cons.mpr ⟨cv1899 hg, (List.forall_mem_cons.mpr ⟨cv1596 hg, (fun _ h => absurd h List.not_mem_nil)⟩)⟩)
/-- LotBeliefs.Sentence.readIf -/
def ct1901 : sxCt := (45, 12, (1, [], [], [(0, .inl 1), (1, .inl 3)], [], [(1, (0, .ofNat 7), .inr (false, (0, .ofNat 3)))], []), [(1, 4), (1, 5), (1, 6), (1, 7), (1, 8), (1, 9), (1, 10)], [
  (3, [(1, .negSucc 9223372036854775807, .ofNat 9223372036854775807), (2, .ofNat 0, .ofNat 4)], [], [], [.inr (true, (1, .ofNat 0))], [(1, (0, .ofNat 3), .inr (false, (2, .ofNat 0))), (1, (0, .ofNat 7), .inr (false, (0, .ofNat 3)))], [])], [], 0, 0)
def cu1901 : List sxCu := []
set_option maxRecDepth 1000000 in
theorem cv1901 {gh : sxGh} (hg : sxGd sxKw gh) : sxCtV sxKw gh ct1901 := sxMeB_ok (cts := [ct1899, ct1596, ct1834]) (cuts := cu1901) (sp := []) 177 (by decide +kernel) hg (by decide) (by decide) (List.forall_mem_cons.mpr ⟨cv1899 hg, (List.forall_mem_cons.mpr ⟨cv1596 hg, (List.forall_mem_cons.mpr ⟨cv1834 hg, (fun _ h => absurd h List.not_mem_nil)⟩)⟩)⟩)
/-- LotBeliefs.Sentence.readEach -/
def ct1902 : sxCt := (42, 12, (1, [], [], [(0, .inl 1), (1, .inl 3)], [], [(1, (0, .ofNat 7), .inr (false, (0, .ofNat 4)))], []), [(1, 4), (1, 5), (1, 6), (1, 7), (1, 8), (1, 9), (1, 10)], [
  (3, [(1, .negSucc 9223372036854775807, .ofNat 9223372036854775807), (2, .ofNat 0, .ofNat 4)], [], [], [.inr (true, (1, .ofNat 0))], [(1, (0, .ofNat 3), .inr (false, (2, .ofNat 0))), (1, (0, .ofNat 7), .inr (false, (0, .ofNat 4)))], [])], [], 0, 0)
def cu1902 : List sxCu := [
  (9, (4, [(1, .negSucc 9223372036854775807, .ofNat 9223372036854775807), (2, .ofNat 0, .ofNat 600), (3, .ofNat 0, .ofNat 4)], [], [(0, .inl 1), (1, .inl 3), (2, .inr (true, (1, .ofNat 0))), (4, .inr (false, (2, .ofNat 0)))], [], [(1, (0, .ofNat 3), .inr (false, (3, .ofNat 0))), (1, (0, .ofNat 7), .inr (false, (0, .ofNat 4)))], []), ((0, 2, .ofNat 600), (0, 0, .ofNat 0), (0, 0, .ofNat 0)), 0, 0)]
set_option maxRecDepth 1000000 in
theorem cv1902 {gh : sxGh} (hg : sxGd sxKw gh) : sxCtV sxKw gh ct1902 := sxMeB_ok (cts := [ct1899, ct1596, ct1836]) (cuts := cu1902) (sp := []) 92 (by decide +kernel) hg (by decide) (by decide) (List.forall_mem_cons.mpr ⟨cv1899 hg, (List.forall_mem_cons.mpr ⟨cv1596 hg, (List.forall_mem_cons.mpr ⟨cv1836 hg, (fun _ h => absurd h List.not_mem_nil)⟩)⟩)⟩)
/-- LotBeliefs.Sentence.readEither -/
def ct1903 : sxCt := (41, 13, (1, [], [], [(0, .inl 1), (1, .inl 3)], [], [(1, (0, .ofNat 7), .inr (false, (0, .ofNat 4)))], []), [(1, 4), (1, 5), (1, 6), (1, 7), (1, 8), (1, 9), (1, 10)], [
  (3, [(1, .negSucc 9223372036854775807, .ofNat 9223372036854775807), (2, .ofNat 0, .ofNat 4)], [], [], [.inr (true, (1, .ofNat 0))], [(1, (0, .ofNat 3), .inr (false, (2, .ofNat 0))), (1, (0, .ofNat 7), .inr (false, (0, .ofNat 4)))], [])], [], 0, 0)
def cu1903 : List sxCu := [
  (9, (4, [(1, .negSucc 9223372036854775807, .ofNat 9223372036854775807), (2, .ofNat 0, .ofNat 600), (3, .ofNat 0, .ofNat 4)], [], [(0, .inl 1), (1, .inl 3), (2, .inr (true, (1, .ofNat 0))), (4, .inr (false, (2, .ofNat 0)))], [], [(1, (0, .ofNat 3), .inr (false, (3, .ofNat 0))), (1, (0, .ofNat 7), .inr (false, (0, .ofNat 4)))], []), ((0, 2, .ofNat 600), (0, 0, .ofNat 0), (0, 0, .ofNat 0)), 0, 0)]
set_option maxRecDepth 1000000 in
theorem cv1903 {gh : sxGh} (hg : sxGd sxKw gh) : sxCtV sxKw gh ct1903 := sxMeB_ok (cts := [ct1902, ct1596, ct1838]) (cuts := cu1903) (sp := []) 92 (by decide +kernel) hg (by decide) (by decide) (List.forall_mem_cons.mpr ⟨cv1902 hg, (List.forall_mem_cons.mpr ⟨cv1596 hg, (List.forall_mem_cons.mpr ⟨cv1838 hg, (fun _ h => absurd h List.not_mem_nil)⟩)⟩)⟩)
/-- LotBeliefs.Sentence.readBrackets -/
def ct1904 : sxCt := (46, 14, (1, [], [], [(0, .inl 1), (1, .inl 3)], [], [(1, (0, .ofNat 7), .inr (false, (0, .ofNat 3)))], []), [(1, 4), (1, 5), (1, 6), (1, 7), (1, 8), (1, 9), (1, 10)], [
  (3, [(1, .negSucc 9223372036854775807, .ofNat 9223372036854775807), (2, .ofNat 0, .ofNat 4)], [], [], [.inr (true, (1, .ofNat 0))], [(1, (0, .ofNat 3), .inr (false, (2, .ofNat 0))), (1, (0, .ofNat 7), .inr (false, (0, .ofNat 3)))], [])], [], 0, 0)
def cu1904 : List sxCu := []
set_option maxRecDepth 1000000 in
theorem cv1904 {gh : sxGh} (hg : sxGd sxKw gh) : sxCtV sxKw gh ct1904 := sxMeB_ok (cts := [ct1903, ct1596]) (cuts := cu1904) (sp := []) 196 (by decide +kernel) hg (by decide) (by decide) (List.forall_mem_cons.mpr ⟨cv1903 hg, (List.forall_mem_cons.mpr ⟨cv1596 hg, (fun _ h => absurd h List.not_mem_nil)⟩)⟩)
/-- LotBeliefs.Sentence.readAtom -/
def ct1905 : sxCt := (47, 1, (1, [], [], [(0, .inl 1), (1, .inl 3)], [], [(1, (0, .ofNat 7), .inr (false, (0, .ofNat 3)))], []), [(1, 4), (1, 5), (1, 6), (1, 7), (1, 9), (1, 10)], [
  (3, [(1, .negSucc 9223372036854775807, .ofNat 9223372036854775807), (2, .ofNat 0, .ofNat 4)], [], [], [.inr (true, (1, .ofNat 0))], [(1, (0, .ofNat 3), .inr (false, (2, .ofNat 0))), (1, (0, .ofNat 7), .inr (false, (0, .ofNat 3)))], [])], [], 0, 0)
def cu1905 : List sxCu := []
set_option maxRecDepth 1000000 in
theorem cv1905 {gh : sxGh} (hg : sxGd sxKw gh) : sxCtV sxKw gh ct1905 := sxMeB_ok (cts := [ct1596]) (cuts := cu1905) (sp := []) 222 (by decide +kernel) hg (by decide) (by decide) (List.forall_mem_cons.mpr ⟨cv1596 hg, (fun _ h => absurd h List.not_mem_nil)⟩)
/-- LotBeliefs.Sentence.readPart -/
def ct1906 : sxCt := (43, 15, (1, [], [], [(0, .inl 1), (1, .inl 3)], [], [(1, (0, .ofNat 7), .inr (false, (0, .ofNat 3)))], []), [(1, 4), (1, 5), (1, 6), (1, 7), (1, 8), (1, 9), (1, 10)], [
  (3, [(1, .negSucc 9223372036854775807, .ofNat 9223372036854775807), (2, .ofNat 0, .ofNat 4)], [], [], [.inr (true, (1, .ofNat 0))], [(1, (0, .ofNat 3), .inr (false, (2, .ofNat 0))), (1, (0, .ofNat 7), .inr (false, (0, .ofNat 3)))], [])], [], 0, 0)
def cu1906 : List sxCu := []
set_option maxRecDepth 1000000 in
theorem cv1906 {gh : sxGh} (hg : sxGd sxKw gh) : sxCtV sxKw gh ct1906 := sxMeB_ok (cts := [ct1900, ct1901, ct1904, ct1905, ct1826, ct1828]) (cuts := cu1906) (sp := []) 118 (by decide +kernel) hg (by decide) (by decide) (List.forall_mem_cons.mpr ⟨cv1900 hg, (List.forall_mem_cons.mpr ⟨cv1901 hg, (List.forall_mem_cons.mpr ⟨cv1904 hg, (List.forall_mem_cons.mpr ⟨cv1905 hg, (List.forall_mem_cons.mpr ⟨cv1826 hg, (List.forall_mem_cons.mpr ⟨cv1828 hg, (fun _ h => absurd h List.not_mem_nil)⟩)⟩)⟩)⟩)⟩)⟩)
/-- LotBeliefs.Sentence.readNot -/
def ct1907 : sxCt := (44, 16, (1, [], [], [(0, .inl 1), (1, .inl 3)], [], [(1, (0, .ofNat 7), .inr (false, (0, .ofNat 2)))], []), [(1, 4), (1, 5), (1, 6), (1, 7), (1, 8), (1, 9), (1, 10)], [
  (3, [(1, .negSucc 9223372036854775807, .ofNat 9223372036854775807), (2, .ofNat 0, .ofNat 4)], [], [], [.inr (true, (1, .ofNat 0))], [(1, (0, .ofNat 3), .inr (false, (2, .ofNat 0))), (1, (0, .ofNat 7), .inr (false, (0, .ofNat 2)))], [])], [], 0, 0)
def cu1907 : List sxCu := []
set_option maxRecDepth 1000000 in
theorem cv1907 {gh : sxGh} (hg : sxGd sxKw gh) : sxCtV sxKw gh ct1907 := sxMeB_ok (cts := [ct1906, ct1596]) (cuts := cu1907) (sp := []) 99 (by decide +kernel) hg (by decide) (by decide) (List.forall_mem_cons.mpr ⟨cv1906 hg, (List.forall_mem_cons.mpr ⟨cv1596 hg, (fun _ h => absurd h List.not_mem_nil)⟩)⟩)
/-- LotBeliefs.Sentence.readIf -/
def ct1908 : sxCt := (45, 16, (1, [], [], [(0, .inl 1), (1, .inl 3)], [], [(1, (0, .ofNat 7), .inr (false, (0, .ofNat 2)))], []), [(1, 4), (1, 5), (1, 6), (1, 7), (1, 8), (1, 9), (1, 10)], [
  (3, [(1, .negSucc 9223372036854775807, .ofNat 9223372036854775807), (2, .ofNat 0, .ofNat 4)], [], [], [.inr (true, (1, .ofNat 0))], [(1, (0, .ofNat 3), .inr (false, (2, .ofNat 0))), (1, (0, .ofNat 7), .inr (false, (0, .ofNat 2)))], [])], [], 0, 0)
def cu1908 : List sxCu := []
set_option maxRecDepth 1000000 in
theorem cv1908 {gh : sxGh} (hg : sxGd sxKw gh) : sxCtV sxKw gh ct1908 := sxMeB_ok (cts := [ct1906, ct1596, ct1834]) (cuts := cu1908) (sp := []) 177 (by decide +kernel) hg (by decide) (by decide) (List.forall_mem_cons.mpr ⟨cv1906 hg, (List.forall_mem_cons.mpr ⟨cv1596 hg, (List.forall_mem_cons.mpr ⟨cv1834 hg, (fun _ h => absurd h List.not_mem_nil)⟩)⟩)⟩)
/-- LotBeliefs.Sentence.readEach -/
def ct1909 : sxCt := (42, 16, (1, [], [], [(0, .inl 1), (1, .inl 3)], [], [(1, (0, .ofNat 7), .inr (false, (0, .ofNat 3)))], []), [(1, 4), (1, 5), (1, 6), (1, 7), (1, 8), (1, 9), (1, 10)], [
  (3, [(1, .negSucc 9223372036854775807, .ofNat 9223372036854775807), (2, .ofNat 0, .ofNat 4)], [], [], [.inr (true, (1, .ofNat 0))], [(1, (0, .ofNat 3), .inr (false, (2, .ofNat 0))), (1, (0, .ofNat 7), .inr (false, (0, .ofNat 3)))], [])], [], 0, 0)
def cu1909 : List sxCu := [
  (9, (4, [(1, .negSucc 9223372036854775807, .ofNat 9223372036854775807), (2, .ofNat 0, .ofNat 600), (3, .ofNat 0, .ofNat 4)], [], [(0, .inl 1), (1, .inl 3), (2, .inr (true, (1, .ofNat 0))), (4, .inr (false, (2, .ofNat 0)))], [], [(1, (0, .ofNat 3), .inr (false, (3, .ofNat 0))), (1, (0, .ofNat 7), .inr (false, (0, .ofNat 3)))], []), ((0, 2, .ofNat 600), (0, 0, .ofNat 0), (0, 0, .ofNat 0)), 0, 0)]
set_option maxRecDepth 1000000 in
theorem cv1909 {gh : sxGh} (hg : sxGd sxKw gh) : sxCtV sxKw gh ct1909 := sxMeB_ok (cts := [ct1906, ct1596, ct1836]) (cuts := cu1909) (sp := []) 92 (by decide +kernel) hg (by decide) (by decide) (List.forall_mem_cons.mpr ⟨cv1906 hg, (List.forall_mem_cons.mpr ⟨cv1596 hg, (List.forall_mem_cons.mpr ⟨cv1836 hg, (fun _ h => absurd h List.not_mem_nil)⟩)⟩)⟩)
/-- LotBeliefs.Sentence.readEither -/
def ct1910 : sxCt := (41, 17, (1, [], [], [(0, .inl 1), (1, .inl 3)], [], [(1, (0, .ofNat 7), .inr (false, (0, .ofNat 3)))], []), [(1, 4), (1, 5), (1, 6), (1, 7), (1, 8), (1, 9), (1, 10)], [
  (3, [(1, .negSucc 9223372036854775807, .ofNat 9223372036854775807), (2, .ofNat 0, .ofNat 4)], [], [], [.inr (true, (1, .ofNat 0))], [(1, (0, .ofNat 3), .inr (false, (2, .ofNat 0))), (1, (0, .ofNat 7), .inr (false, (0, .ofNat 3)))], [])], [], 0, 0)
def cu1910 : List sxCu := [
  (9, (4, [(1, .negSucc 9223372036854775807, .ofNat 9223372036854775807), (2, .ofNat 0, .ofNat 600), (3, .ofNat 0, .ofNat 4)], [], [(0, .inl 1), (1, .inl 3), (2, .inr (true, (1, .ofNat 0))), (4, .inr (false, (2, .ofNat 0)))], [], [(1, (0, .ofNat 3), .inr (false, (3, .ofNat 0))), (1, (0, .ofNat 7), .inr (false, (0, .ofNat 3)))], []), ((0, 2, .ofNat 600), (0, 0, .ofNat 0), (0, 0, .ofNat 0)), 0, 0)]
set_option maxRecDepth 1000000 in
theorem cv1910 {gh : sxGh} (hg : sxGd sxKw gh) : sxCtV sxKw gh ct1910 := sxMeB_ok (cts := [ct1909, ct1596, ct1838]) (cuts := cu1910) (sp := []) 92 (by decide +kernel) hg (by decide) (by decide) (List.forall_mem_cons.mpr ⟨cv1909 hg, (List.forall_mem_cons.mpr ⟨cv1596 hg, (List.forall_mem_cons.mpr ⟨cv1838 hg, (fun _ h => absurd h List.not_mem_nil)⟩)⟩)⟩)
/-- LotBeliefs.Sentence.readBrackets -/
def ct1911 : sxCt := (46, 18, (1, [], [], [(0, .inl 1), (1, .inl 3)], [], [(1, (0, .ofNat 7), .inr (false, (0, .ofNat 2)))], []), [(1, 4), (1, 5), (1, 6), (1, 7), (1, 8), (1, 9), (1, 10)], [
  (3, [(1, .negSucc 9223372036854775807, .ofNat 9223372036854775807), (2, .ofNat 0, .ofNat 4)], [], [], [.inr (true, (1, .ofNat 0))], [(1, (0, .ofNat 3), .inr (false, (2, .ofNat 0))), (1, (0, .ofNat 7), .inr (false, (0, .ofNat 2)))], [])], [], 0, 0)
def cu1911 : List sxCu := []
set_option maxRecDepth 1000000 in
theorem cv1911 {gh : sxGh} (hg : sxGd sxKw gh) : sxCtV sxKw gh ct1911 := sxMeB_ok (cts := [ct1910, ct1596]) (cuts := cu1911) (sp := []) 196 (by decide +kernel) hg (by decide) (by decide) (List.forall_mem_cons.mpr ⟨cv1910 hg, (List.forall_mem_cons.mpr ⟨cv1596 hg, (fun _ h => absurd h List.not_mem_nil)⟩)⟩)
/-- LotBeliefs.Sentence.readAtom -/
def ct1912 : sxCt := (47, 1, (1, [], [], [(0, .inl 1), (1, .inl 3)], [], [(1, (0, .ofNat 7), .inr (false, (0, .ofNat 2)))], []), [(1, 4), (1, 5), (1, 6), (1, 7), (1, 9), (1, 10)], [
  (3, [(1, .negSucc 9223372036854775807, .ofNat 9223372036854775807), (2, .ofNat 0, .ofNat 4)], [], [], [.inr (true, (1, .ofNat 0))], [(1, (0, .ofNat 3), .inr (false, (2, .ofNat 0))), (1, (0, .ofNat 7), .inr (false, (0, .ofNat 2)))], [])], [], 0, 0)
def cu1912 : List sxCu := []
set_option maxRecDepth 1000000 in
theorem cv1912 {gh : sxGh} (hg : sxGd sxKw gh) : sxCtV sxKw gh ct1912 := sxMeB_ok (cts := [ct1596]) (cuts := cu1912) (sp := []) 222 (by decide +kernel) hg (by decide) (by decide) (List.forall_mem_cons.mpr ⟨cv1596 hg, (fun _ h => absurd h List.not_mem_nil)⟩)
/-- LotBeliefs.Sentence.readPart -/
def ct1913 : sxCt := (43, 19, (1, [], [], [(0, .inl 1), (1, .inl 3)], [], [(1, (0, .ofNat 7), .inr (false, (0, .ofNat 2)))], []), [(1, 4), (1, 5), (1, 6), (1, 7), (1, 8), (1, 9), (1, 10)], [
  (3, [(1, .negSucc 9223372036854775807, .ofNat 9223372036854775807), (2, .ofNat 0, .ofNat 4)], [], [], [.inr (true, (1, .ofNat 0))], [(1, (0, .ofNat 3), .inr (false, (2, .ofNat 0))), (1, (0, .ofNat 7), .inr (false, (0, .ofNat 2)))], [])], [], 0, 0)
def cu1913 : List sxCu := []
set_option maxRecDepth 1000000 in
theorem cv1913 {gh : sxGh} (hg : sxGd sxKw gh) : sxCtV sxKw gh ct1913 := sxMeB_ok (cts := [ct1907, ct1908, ct1911, ct1912, ct1826, ct1828]) (cuts := cu1913) (sp := []) 118 (by decide +kernel) hg (by decide) (by decide) (List.forall_mem_cons.mpr ⟨cv1907 hg, (List.forall_mem_cons.mpr ⟨cv1908 hg, (List.forall_mem_cons.mpr ⟨cv1911 hg, (List.forall_mem_cons.mpr ⟨cv1912 hg, (List.forall_mem_cons.mpr ⟨cv1826 hg, (List.forall_mem_cons.mpr ⟨cv1828 hg, (fun _ h => absurd h List.not_mem_nil)⟩)⟩)⟩)⟩)⟩)⟩)
/-- LotBeliefs.Sentence.readNot -/
def ct1914 : sxCt := (44, 20, (1, [], [], [(0, .inl 1), (1, .inl 3)], [], [(1, (0, .ofNat 7), .inr (false, (0, .ofNat 1)))], []), [(1, 4), (1, 5), (1, 6), (1, 7), (1, 8), (1, 9), (1, 10)], [
  (3, [(1, .negSucc 9223372036854775807, .ofNat 9223372036854775807), (2, .ofNat 0, .ofNat 4)], [], [], [.inr (true, (1, .ofNat 0))], [(1, (0, .ofNat 3), .inr (false, (2, .ofNat 0))), (1, (0, .ofNat 7), .inr (false, (0, .ofNat 1)))], [])], [], 0, 0)
def cu1914 : List sxCu := []
set_option maxRecDepth 1000000 in
theorem cv1914 {gh : sxGh} (hg : sxGd sxKw gh) : sxCtV sxKw gh ct1914 := sxMeB_ok (cts := [ct1913, ct1596]) (cuts := cu1914) (sp := []) 99 (by decide +kernel) hg (by decide) (by decide) (List.forall_mem_cons.mpr ⟨cv1913 hg, (List.forall_mem_cons.mpr ⟨cv1596 hg, (fun _ h => absurd h List.not_mem_nil)⟩)⟩)
/-- LotBeliefs.Sentence.readIf -/
def ct1915 : sxCt := (45, 20, (1, [], [], [(0, .inl 1), (1, .inl 3)], [], [(1, (0, .ofNat 7), .inr (false, (0, .ofNat 1)))], []), [(1, 4), (1, 5), (1, 6), (1, 7), (1, 8), (1, 9), (1, 10)], [
  (3, [(1, .negSucc 9223372036854775807, .ofNat 9223372036854775807), (2, .ofNat 0, .ofNat 4)], [], [], [.inr (true, (1, .ofNat 0))], [(1, (0, .ofNat 3), .inr (false, (2, .ofNat 0))), (1, (0, .ofNat 7), .inr (false, (0, .ofNat 1)))], [])], [], 0, 0)
def cu1915 : List sxCu := []
set_option maxRecDepth 1000000 in
theorem cv1915 {gh : sxGh} (hg : sxGd sxKw gh) : sxCtV sxKw gh ct1915 := sxMeB_ok (cts := [ct1913, ct1596, ct1834]) (cuts := cu1915) (sp := []) 177 (by decide +kernel) hg (by decide) (by decide) (List.forall_mem_cons.mpr ⟨cv1913 hg, (List.forall_mem_cons.mpr ⟨cv1596 hg, (List.forall_mem_cons.mpr ⟨cv1834 hg, (fun _ h => absurd h List.not_mem_nil)⟩)⟩)⟩)
/-- LotBeliefs.Sentence.readEach -/
def ct1916 : sxCt := (42, 20, (1, [], [], [(0, .inl 1), (1, .inl 3)], [], [(1, (0, .ofNat 7), .inr (false, (0, .ofNat 2)))], []), [(1, 4), (1, 5), (1, 6), (1, 7), (1, 8), (1, 9), (1, 10)], [
  (3, [(1, .negSucc 9223372036854775807, .ofNat 9223372036854775807), (2, .ofNat 0, .ofNat 4)], [], [], [.inr (true, (1, .ofNat 0))], [(1, (0, .ofNat 3), .inr (false, (2, .ofNat 0))), (1, (0, .ofNat 7), .inr (false, (0, .ofNat 2)))], [])], [], 0, 0)
def cu1916 : List sxCu := [
  (9, (4, [(1, .negSucc 9223372036854775807, .ofNat 9223372036854775807), (2, .ofNat 0, .ofNat 600), (3, .ofNat 0, .ofNat 4)], [], [(0, .inl 1), (1, .inl 3), (2, .inr (true, (1, .ofNat 0))), (4, .inr (false, (2, .ofNat 0)))], [], [(1, (0, .ofNat 3), .inr (false, (3, .ofNat 0))), (1, (0, .ofNat 7), .inr (false, (0, .ofNat 2)))], []), ((0, 2, .ofNat 600), (0, 0, .ofNat 0), (0, 0, .ofNat 0)), 0, 0)]
set_option maxRecDepth 1000000 in
theorem cv1916 {gh : sxGh} (hg : sxGd sxKw gh) : sxCtV sxKw gh ct1916 := sxMeB_ok (cts := [ct1913, ct1596, ct1836]) (cuts := cu1916) (sp := []) 92 (by decide +kernel) hg (by decide) (by decide) (List.forall_mem_cons.mpr ⟨cv1913 hg, (List.forall_mem_cons.mpr ⟨cv1596 hg, (List.forall_mem_cons.mpr ⟨cv1836 hg, (fun _ h => absurd h List.not_mem_nil)⟩)⟩)⟩)
/-- LotBeliefs.Sentence.readEither -/
def ct1917 : sxCt := (41, 21, (1, [], [], [(0, .inl 1), (1, .inl 3)], [], [(1, (0, .ofNat 7), .inr (false, (0, .ofNat 2)))], []), [(1, 4), (1, 5), (1, 6), (1, 7), (1, 8), (1, 9), (1, 10)], [
  (3, [(1, .negSucc 9223372036854775807, .ofNat 9223372036854775807), (2, .ofNat 0, .ofNat 4)], [], [], [.inr (true, (1, .ofNat 0))], [(1, (0, .ofNat 3), .inr (false, (2, .ofNat 0))), (1, (0, .ofNat 7), .inr (false, (0, .ofNat 2)))], [])], [], 0, 0)
def cu1917 : List sxCu := [
  (9, (4, [(1, .negSucc 9223372036854775807, .ofNat 9223372036854775807), (2, .ofNat 0, .ofNat 600), (3, .ofNat 0, .ofNat 4)], [], [(0, .inl 1), (1, .inl 3), (2, .inr (true, (1, .ofNat 0))), (4, .inr (false, (2, .ofNat 0)))], [], [(1, (0, .ofNat 3), .inr (false, (3, .ofNat 0))), (1, (0, .ofNat 7), .inr (false, (0, .ofNat 2)))], []), ((0, 2, .ofNat 600), (0, 0, .ofNat 0), (0, 0, .ofNat 0)), 0, 0)]
set_option maxRecDepth 1000000 in
theorem cv1917 {gh : sxGh} (hg : sxGd sxKw gh) : sxCtV sxKw gh ct1917 := sxMeB_ok (cts := [ct1916, ct1596, ct1838]) (cuts := cu1917) (sp := []) 92 (by decide +kernel) hg (by decide) (by decide) (List.forall_mem_cons.mpr ⟨cv1916 hg, (List.forall_mem_cons.mpr ⟨cv1596 hg, (List.forall_mem_cons.mpr ⟨cv1838 hg, (fun _ h => absurd h List.not_mem_nil)⟩)⟩)⟩)
/-- LotBeliefs.Sentence.readBrackets -/
def ct1918 : sxCt := (46, 22, (1, [], [], [(0, .inl 1), (1, .inl 3)], [], [(1, (0, .ofNat 7), .inr (false, (0, .ofNat 1)))], []), [(1, 4), (1, 5), (1, 6), (1, 7), (1, 8), (1, 9), (1, 10)], [
  (3, [(1, .negSucc 9223372036854775807, .ofNat 9223372036854775807), (2, .ofNat 0, .ofNat 4)], [], [], [.inr (true, (1, .ofNat 0))], [(1, (0, .ofNat 3), .inr (false, (2, .ofNat 0))), (1, (0, .ofNat 7), .inr (false, (0, .ofNat 1)))], [])], [], 0, 0)
def cu1918 : List sxCu := []
set_option maxRecDepth 1000000 in
theorem cv1918 {gh : sxGh} (hg : sxGd sxKw gh) : sxCtV sxKw gh ct1918 := sxMeB_ok (cts := [ct1917, ct1596]) (cuts := cu1918) (sp := []) 196 (by decide +kernel) hg (by decide) (by decide) (List.forall_mem_cons.mpr ⟨cv1917 hg, (List.forall_mem_cons.mpr ⟨cv1596 hg, (fun _ h => absurd h List.not_mem_nil)⟩)⟩)
/-- LotBeliefs.Sentence.readAtom -/
def ct1919 : sxCt := (47, 1, (1, [], [], [(0, .inl 1), (1, .inl 3)], [], [(1, (0, .ofNat 7), .inr (false, (0, .ofNat 1)))], []), [(1, 4), (1, 5), (1, 6), (1, 7), (1, 9), (1, 10)], [
  (3, [(1, .negSucc 9223372036854775807, .ofNat 9223372036854775807), (2, .ofNat 0, .ofNat 4)], [], [], [.inr (true, (1, .ofNat 0))], [(1, (0, .ofNat 3), .inr (false, (2, .ofNat 0))), (1, (0, .ofNat 7), .inr (false, (0, .ofNat 1)))], [])], [], 0, 0)
def cu1919 : List sxCu := []
set_option maxRecDepth 1000000 in
theorem cv1919 {gh : sxGh} (hg : sxGd sxKw gh) : sxCtV sxKw gh ct1919 := sxMeB_ok (cts := [ct1596]) (cuts := cu1919) (sp := []) 222 (by decide +kernel) hg (by decide) (by decide) (List.forall_mem_cons.mpr ⟨cv1596 hg, (fun _ h => absurd h List.not_mem_nil)⟩)
/-- LotBeliefs.Sentence.readPart -/
def ct1920 : sxCt := (43, 23, (1, [], [], [(0, .inl 1), (1, .inl 3)], [], [(1, (0, .ofNat 7), .inr (false, (0, .ofNat 1)))], []), [(1, 4), (1, 5), (1, 6), (1, 7), (1, 8), (1, 9), (1, 10)], [
  (3, [(1, .negSucc 9223372036854775807, .ofNat 9223372036854775807), (2, .ofNat 0, .ofNat 4)], [], [], [.inr (true, (1, .ofNat 0))], [(1, (0, .ofNat 3), .inr (false, (2, .ofNat 0))), (1, (0, .ofNat 7), .inr (false, (0, .ofNat 1)))], [])], [], 0, 0)
def cu1920 : List sxCu := []
set_option maxRecDepth 1000000 in
theorem cv1920 {gh : sxGh} (hg : sxGd sxKw gh) : sxCtV sxKw gh ct1920 := sxMeB_ok (cts := [ct1914, ct1915, ct1918, ct1919, ct1826, ct1828]) (cuts := cu1920) (sp := []) 118 (by decide +kernel) hg (by decide) (by decide) (List.forall_mem_cons.mpr ⟨cv1914 hg, (List.forall_mem_cons.mpr ⟨cv1915 hg, (List.forall_mem_cons.mpr ⟨cv1918 hg, (List.forall_mem_cons.mpr ⟨cv1919 hg, (List.forall_mem_cons.mpr ⟨cv1826 hg, (List.forall_mem_cons.mpr ⟨cv1828 hg, (fun _ h => absurd h List.not_mem_nil)⟩)⟩)⟩)⟩)⟩)⟩)
/-- LotBeliefs.Sentence.readNot -/
def ct1921 : sxCt := (44, 24, (1, [], [], [(0, .inl 1), (1, .inl 3)], [], [(1, (0, .ofNat 7), .inr (false, (0, .ofNat 0)))], []), [(1, 4), (1, 5), (1, 6), (1, 7), (1, 8), (1, 9), (1, 10)], [
  (3, [(1, .negSucc 9223372036854775807, .ofNat 9223372036854775807), (2, .ofNat 0, .ofNat 4)], [], [], [.inr (true, (1, .ofNat 0))], [(1, (0, .ofNat 3), .inr (false, (2, .ofNat 0))), (1, (0, .ofNat 7), .inr (false, (0, .ofNat 0)))], [])], [], 0, 0)
def cu1921 : List sxCu := []
set_option maxRecDepth 1000000 in
theorem cv1921 {gh : sxGh} (hg : sxGd sxKw gh) : sxCtV sxKw gh ct1921 := sxMeB_ok (cts := [ct1920, ct1596]) (cuts := cu1921) (sp := []) 99 (by decide +kernel) hg (by decide) (by decide) (List.forall_mem_cons.mpr ⟨cv1920 hg, (List.forall_mem_cons.mpr ⟨cv1596 hg, (fun _ h => absurd h List.not_mem_nil)⟩)⟩)
/-- LotBeliefs.Sentence.readIf -/
def ct1922 : sxCt := (45, 24, (1, [], [], [(0, .inl 1), (1, .inl 3)], [], [(1, (0, .ofNat 7), .inr (false, (0, .ofNat 0)))], []), [(1, 4), (1, 5), (1, 6), (1, 7), (1, 8), (1, 9), (1, 10)], [
  (3, [(1, .negSucc 9223372036854775807, .ofNat 9223372036854775807), (2, .ofNat 0, .ofNat 4)], [], [], [.inr (true, (1, .ofNat 0))], [(1, (0, .ofNat 3), .inr (false, (2, .ofNat 0))), (1, (0, .ofNat 7), .inr (false, (0, .ofNat 0)))], [])], [], 0, 0)
def cu1922 : List sxCu := []
set_option maxRecDepth 1000000 in
theorem cv1922 {gh : sxGh} (hg : sxGd sxKw gh) : sxCtV sxKw gh ct1922 := sxMeB_ok (cts := [ct1920, ct1596, ct1834]) (cuts := cu1922) (sp := []) 177 (by decide +kernel) hg (by decide) (by decide) (List.forall_mem_cons.mpr ⟨cv1920 hg, (List.forall_mem_cons.mpr ⟨cv1596 hg, (List.forall_mem_cons.mpr ⟨cv1834 hg, (fun _ h => absurd h List.not_mem_nil)⟩)⟩)⟩)
/-- LotBeliefs.Sentence.readEach -/
def ct1923 : sxCt := (42, 24, (1, [], [], [(0, .inl 1), (1, .inl 3)], [], [(1, (0, .ofNat 7), .inr (false, (0, .ofNat 1)))], []), [(1, 4), (1, 5), (1, 6), (1, 7), (1, 8), (1, 9), (1, 10)], [
  (3, [(1, .negSucc 9223372036854775807, .ofNat 9223372036854775807), (2, .ofNat 0, .ofNat 4)], [], [], [.inr (true, (1, .ofNat 0))], [(1, (0, .ofNat 3), .inr (false, (2, .ofNat 0))), (1, (0, .ofNat 7), .inr (false, (0, .ofNat 1)))], [])], [], 0, 0)
def cu1923 : List sxCu := [
  (9, (4, [(1, .negSucc 9223372036854775807, .ofNat 9223372036854775807), (2, .ofNat 0, .ofNat 600), (3, .ofNat 0, .ofNat 4)], [], [(0, .inl 1), (1, .inl 3), (2, .inr (true, (1, .ofNat 0))), (4, .inr (false, (2, .ofNat 0)))], [], [(1, (0, .ofNat 3), .inr (false, (3, .ofNat 0))), (1, (0, .ofNat 7), .inr (false, (0, .ofNat 1)))], []), ((0, 2, .ofNat 600), (0, 0, .ofNat 0), (0, 0, .ofNat 0)), 0, 0)]
set_option maxRecDepth 1000000 in
theorem cv1923 {gh : sxGh} (hg : sxGd sxKw gh) : sxCtV sxKw gh ct1923 := sxMeB_ok (cts := [ct1920, ct1596, ct1836]) (cuts := cu1923) (sp := []) 92 (by decide +kernel) hg (by decide) (by decide) (List.forall_mem_cons.mpr ⟨cv1920 hg, (List.forall_mem_cons.mpr ⟨cv1596 hg, (List.forall_mem_cons.mpr ⟨cv1836 hg, (fun _ h => absurd h List.not_mem_nil)⟩)⟩)⟩)
/-- LotBeliefs.Sentence.readEither -/
def ct1924 : sxCt := (41, 25, (1, [], [], [(0, .inl 1), (1, .inl 3)], [], [(1, (0, .ofNat 7), .inr (false, (0, .ofNat 1)))], []), [(1, 4), (1, 5), (1, 6), (1, 7), (1, 8), (1, 9), (1, 10)], [
  (3, [(1, .negSucc 9223372036854775807, .ofNat 9223372036854775807), (2, .ofNat 0, .ofNat 4)], [], [], [.inr (true, (1, .ofNat 0))], [(1, (0, .ofNat 3), .inr (false, (2, .ofNat 0))), (1, (0, .ofNat 7), .inr (false, (0, .ofNat 1)))], [])], [], 0, 0)
def cu1924 : List sxCu := [
  (9, (4, [(1, .negSucc 9223372036854775807, .ofNat 9223372036854775807), (2, .ofNat 0, .ofNat 600), (3, .ofNat 0, .ofNat 4)], [], [(0, .inl 1), (1, .inl 3), (2, .inr (true, (1, .ofNat 0))), (4, .inr (false, (2, .ofNat 0)))], [], [(1, (0, .ofNat 3), .inr (false, (3, .ofNat 0))), (1, (0, .ofNat 7), .inr (false, (0, .ofNat 1)))], []), ((0, 2, .ofNat 600), (0, 0, .ofNat 0), (0, 0, .ofNat 0)), 0, 0)]
set_option maxRecDepth 1000000 in
theorem cv1924 {gh : sxGh} (hg : sxGd sxKw gh) : sxCtV sxKw gh ct1924 := sxMeB_ok (cts := [ct1923, ct1596, ct1838]) (cuts := cu1924) (sp := []) 92 (by decide +kernel) hg (by decide) (by decide) (List.forall_mem_cons.mpr ⟨cv1923 hg, (List.forall_mem_cons.mpr ⟨cv1596 hg, (List.forall_mem_cons.mpr ⟨cv1838 hg, (fun _ h => absurd h List.not_mem_nil)⟩)⟩)⟩)
/-- LotBeliefs.Sentence.readBrackets -/
def ct1925 : sxCt := (46, 26, (1, [], [], [(0, .inl 1), (1, .inl 3)], [], [(1, (0, .ofNat 7), .inr (false, (0, .ofNat 0)))], []), [(1, 4), (1, 5), (1, 6), (1, 7), (1, 8), (1, 9), (1, 10)], [
  (3, [(1, .negSucc 9223372036854775807, .ofNat 9223372036854775807), (2, .ofNat 0, .ofNat 4)], [], [], [.inr (true, (1, .ofNat 0))], [(1, (0, .ofNat 3), .inr (false, (2, .ofNat 0))), (1, (0, .ofNat 7), .inr (false, (0, .ofNat 0)))], [])], [], 0, 0)
def cu1925 : List sxCu := []
set_option maxRecDepth 1000000 in
theorem cv1925 {gh : sxGh} (hg : sxGd sxKw gh) : sxCtV sxKw gh ct1925 := sxMeB_ok (cts := [ct1924, ct1596]) (cuts := cu1925) (sp := []) 196 (by decide +kernel) hg (by decide) (by decide) (List.forall_mem_cons.mpr ⟨cv1924 hg, (List.forall_mem_cons.mpr ⟨cv1596 hg, (fun _ h => absurd h List.not_mem_nil)⟩)⟩)
/-- LotBeliefs.Sentence.readAtom -/
def ct1926 : sxCt := (47, 1, (1, [], [], [(0, .inl 1), (1, .inl 3)], [], [(1, (0, .ofNat 7), .inr (false, (0, .ofNat 0)))], []), [(1, 4), (1, 5), (1, 6), (1, 7), (1, 9), (1, 10)], [
  (3, [(1, .negSucc 9223372036854775807, .ofNat 9223372036854775807), (2, .ofNat 0, .ofNat 4)], [], [], [.inr (true, (1, .ofNat 0))], [(1, (0, .ofNat 3), .inr (false, (2, .ofNat 0))), (1, (0, .ofNat 7), .inr (false, (0, .ofNat 0)))], [])], [], 0, 0)
def cu1926 : List sxCu := []
set_option maxRecDepth 1000000 in
theorem cv1926 {gh : sxGh} (hg : sxGd sxKw gh) : sxCtV sxKw gh ct1926 := sxMeB_ok (cts := [ct1596]) (cuts := cu1926) (sp := []) 222 (by decide +kernel) hg (by decide) (by decide) (List.forall_mem_cons.mpr ⟨cv1596 hg, (fun _ h => absurd h List.not_mem_nil)⟩)
/-- LotBeliefs.Sentence.readPart -/
def ct1927 : sxCt := (43, 27, (1, [], [], [(0, .inl 1), (1, .inl 3)], [], [(1, (0, .ofNat 7), .inr (false, (0, .ofNat 0)))], []), [(1, 4), (1, 5), (1, 6), (1, 7), (1, 8), (1, 9), (1, 10)], [
  (3, [(1, .negSucc 9223372036854775807, .ofNat 9223372036854775807), (2, .ofNat 0, .ofNat 4)], [], [], [.inr (true, (1, .ofNat 0))], [(1, (0, .ofNat 3), .inr (false, (2, .ofNat 0))), (1, (0, .ofNat 7), .inr (false, (0, .ofNat 0)))], [])], [], 0, 0)
def cu1927 : List sxCu := []
set_option maxRecDepth 1000000 in
theorem cv1927 {gh : sxGh} (hg : sxGd sxKw gh) : sxCtV sxKw gh ct1927 := sxMeB_ok (cts := [ct1921, ct1922, ct1925, ct1926, ct1826, ct1828]) (cuts := cu1927) (sp := []) 118 (by decide +kernel) hg (by decide) (by decide) (List.forall_mem_cons.mpr ⟨cv1921 hg, (List.forall_mem_cons.mpr ⟨cv1922 hg, (List.forall_mem_cons.mpr ⟨cv1925 hg, (List.forall_mem_cons.mpr ⟨cv1926 hg, (List.forall_mem_cons.mpr ⟨cv1826 hg, (List.forall_mem_cons.mpr ⟨cv1828 hg, (fun _ h => absurd h List.not_mem_nil)⟩)⟩)⟩)⟩)⟩)⟩)
/-- LotBeliefs.Sentence.readEach -/
def ct1928 : sxCt := (42, 28, (1, [], [], [(0, .inl 1), (1, .inl 3)], [], [(1, (0, .ofNat 7), .inr (false, (0, .ofNat 0)))], []), [(1, 4), (1, 5), (1, 6), (1, 7), (1, 8), (1, 9), (1, 10)], [
  (3, [(1, .negSucc 9223372036854775807, .ofNat 9223372036854775807), (2, .ofNat 0, .ofNat 4)], [], [], [.inr (true, (1, .ofNat 0))], [(1, (0, .ofNat 3), .inr (false, (2, .ofNat 0))), (1, (0, .ofNat 7), .inr (false, (0, .ofNat 0)))], [])], [], 0, 0)
def cu1928 : List sxCu := [
  (9, (4, [(1, .negSucc 9223372036854775807, .ofNat 9223372036854775807), (2, .ofNat 0, .ofNat 600), (3, .ofNat 0, .ofNat 4)], [], [(0, .inl 1), (1, .inl 3), (2, .inr (true, (1, .ofNat 0))), (4, .inr (false, (2, .ofNat 0)))], [], [(1, (0, .ofNat 3), .inr (false, (3, .ofNat 0))), (1, (0, .ofNat 7), .inr (false, (0, .ofNat 0)))], []), ((0, 2, .ofNat 600), (0, 0, .ofNat 0), (0, 0, .ofNat 0)), 0, 0)]
set_option maxRecDepth 1000000 in
theorem cv1928 {gh : sxGh} (hg : sxGd sxKw gh) : sxCtV sxKw gh ct1928 := sxMeB_ok (cts := [ct1927, ct1596, ct1836]) (cuts := cu1928) (sp := []) 92 (by decide +kernel) hg (by decide) (by decide) (List.forall_mem_cons.mpr ⟨cv1927 hg, (List.forall_mem_cons.mpr ⟨cv1596 hg, (List.forall_mem_cons.mpr ⟨cv1836 hg, (fun _ h => absurd h List.not_mem_nil)⟩)⟩)⟩)
/-- LotBeliefs.Sentence.readEither -/
def ct1929 : sxCt := (41, 29, (1, [], [], [(0, .inl 1), (1, .inl 3)], [], [(1, (0, .ofNat 7), .inr (false, (0, .ofNat 0)))], []), [(1, 4), (1, 5), (1, 6), (1, 7), (1, 8), (1, 9), (1, 10)], [
  (3, [(1, .negSucc 9223372036854775807, .ofNat 9223372036854775807), (2, .ofNat 0, .ofNat 4)], [], [], [.inr (true, (1, .ofNat 0))], [(1, (0, .ofNat 3), .inr (false, (2, .ofNat 0))), (1, (0, .ofNat 7), .inr (false, (0, .ofNat 0)))], [])], [], 0, 0)
def cu1929 : List sxCu := [
  (9, (4, [(1, .negSucc 9223372036854775807, .ofNat 9223372036854775807), (2, .ofNat 0, .ofNat 600), (3, .ofNat 0, .ofNat 4)], [], [(0, .inl 1), (1, .inl 3), (2, .inr (true, (1, .ofNat 0))), (4, .inr (false, (2, .ofNat 0)))], [], [(1, (0, .ofNat 3), .inr (false, (3, .ofNat 0))), (1, (0, .ofNat 7), .inr (false, (0, .ofNat 0)))], []), ((0, 2, .ofNat 600), (0, 0, .ofNat 0), (0, 0, .ofNat 0)), 0, 0)]
set_option maxRecDepth 1000000 in
theorem cv1929 {gh : sxGh} (hg : sxGd sxKw gh) : sxCtV sxKw gh ct1929 := sxMeB_ok (cts := [ct1928, ct1596, ct1838]) (cuts := cu1929) (sp := []) 92 (by decide +kernel) hg (by decide) (by decide) (List.forall_mem_cons.mpr ⟨cv1928 hg, (List.forall_mem_cons.mpr ⟨cv1596 hg, (List.forall_mem_cons.mpr ⟨cv1838 hg, (fun _ h => absurd h List.not_mem_nil)⟩)⟩)⟩)
/-- LotBeliefs.Sentence.readAlone -/
def ct1930 : sxCt := (40, 30, (1, [], [], [(0, .inl 1), (1, .inl 3)], [], [(1, (0, .ofNat 7), .inr (false, (0, .ofNat 0)))], []), [(1, 4), (1, 5), (1, 6), (1, 7), (1, 8), (1, 9), (1, 10)], [
  (3, [(1, .negSucc 9223372036854775807, .ofNat 9223372036854775807), (2, .ofNat 0, .ofNat 4)], [], [], [.inr (true, (1, .ofNat 0))], [(1, (0, .ofNat 3), .inr (false, (2, .ofNat 0))), (1, (0, .ofNat 7), .inr (false, (0, .ofNat 0)))], [])], [], 0, 0)
def cu1930 : List sxCu := []
set_option maxRecDepth 1000000 in
theorem cv1930 {gh : sxGh} (hg : sxGd sxKw gh) : sxCtV sxKw gh ct1930 := sxMeB_ok (cts := [ct1929]) (cuts := cu1930) (sp := []) 108 (by decide +kernel) hg (by decide) (by decide) (List.forall_mem_cons.mpr ⟨cv1929 hg, (fun _ h => absurd h List.not_mem_nil)⟩)
/-- LotBeliefs.question -/
def ct1931 : sxCt := (115, 31, (3, [(1, .negSucc 2147483647, .ofNat 2147483647), (2, .ofNat 0, .ofNat 600)], [], [(0, .inl 0), (1, .inr (false, (1, .ofNat 0)))], [], [(1, (0, .ofNat 1), .inr (false, (2, .ofNat 0)))], []), [(0, 2), (0, 7), (1, 2), (1, 3), (1, 4), (1, 5), (1, 6), (1, 7), (1, 8), (1, 9), (1, 10), (30, 0)], [
  (8, [(1, .ofNat 0, .ofNat 200), (2, .ofNat 0, .ofNat 600), (3, .negSucc 8, .ofNat 127), (4, .negSucc 0, .ofNat 600), (5, .ofNat 0, .ofNat 200), (6, .ofNat 0, .ofNat 4), (7, .ofNat 0, .ofNat 4)], [(1, 5, .ofNat 0), (5, 1, .ofNat 0), (5, 2, .ofNat 0), (7, 3, .ofNat 10), (1, 2, .ofNat 0)], [], [.inr (false, (3, .ofNat 0))], [(0, (0, .ofNat 1), .inr (false, (4, .ofNat 0))), (1, (0, .ofNat 1), .inr (false, (0, .ofNat 0))), (1, (0, .ofNat 2), .inr (false, (5, .ofNat 0))), (1, (0, .ofNat 3), .inr (false, (6, .ofNat 0))), (1, (0, .ofNat 7), .inr (false, (0, .ofNat 0))), (1, (0, .ofNat 8), .inr (false, (7, .ofNat 0))), (1, (0, .ofNat 9), .inr (false, (4, .ofNat 0)))], [])], [
  (1, (4, [(1, .ofNat 201, .ofNat 600), (2, .ofNat 201, .ofNat 600), (3, .negSucc 2147483647, .ofNat 2147483647)], [(1, 2, .ofNat 0)], [], [], [(1, (0, .ofNat 1), .inr (false, (2, .ofNat 0))), (30, (0, .ofNat 1), .inr (false, (3, .ofNat 0)))], [])), 
  (1, (4, [(1, .ofNat 1, .ofNat 2147483647), (2, .ofNat 0, .ofNat 600), (3, .negSucc 2147483647, .ofNat 2147483647)], [(2, 1, .negSucc 0)], [], [], [(1, (0, .ofNat 1), .inr (false, (2, .ofNat 0))), (30, (0, .ofNat 1), .inr (false, (3, .ofNat 0)))], [])), 
  (1, (4, [(1, .negSucc 2147483647, .negSucc 0), (2, .ofNat 0, .ofNat 600), (3, .negSucc 2147483647, .ofNat 2147483647)], [(1, 2, .ofNat 0)], [], [], [(1, (0, .ofNat 1), .inr (false, (2, .ofNat 0))), (30, (0, .ofNat 1), .inr (false, (3, .ofNat 0)))], []))], 1, 6)
def cu1931 : List sxCu := []
set_option maxRecDepth 1000000 in
theorem cv1931 {gh : sxGh} (hg : sxGd sxKw gh) : sxCtV sxKw gh ct1931 := sxMeB_ok (cts := [ct1880, ct1930, ct1596, ct24]) (cuts := cu1931) (sp := []) 275 (by decide +kernel) hg (by decide) (by decide) (List.forall_mem_cons.mpr ⟨cv1880 hg, (List.forall_mem_cons.mpr ⟨cv1930 hg, (List.forall_mem_cons.mpr ⟨cv1596 hg, (List.forall_mem_cons.mpr ⟨cv24 hg, (fun _ h => absurd h List.not_mem_nil)⟩)⟩)⟩)⟩)
/-- LotBeliefsLaw.question -/
def ct1932 : sxCt := (330, 32, (3, [(1, .negSucc 2147483647, .ofNat 2147483647), (2, .ofNat 0, .ofNat 600)], [], [(0, .inl 0), (1, .inr (false, (1, .ofNat 0))), (2, .inl 578)], [], [(1, (0, .ofNat 1), .inr (false, (2, .ofNat 0)))], []), [(0, 2), (0, 7), (1, 2), (1, 3), (1, 4), (1, 5), (1, 6), (1, 7), (1, 8), (1, 9), (1, 10), (30, 0), (578, 0)], [
  (4, [(1, .negSucc 2147483647, .negSucc 0), (2, .ofNat 0, .ofNat 600), (3, .negSucc 2147483647, .ofNat 2147483647)], [(1, 2, .ofNat 0)], [], [.inr (false, (0, .ofNat 1))], [(1, (0, .ofNat 1), .inr (false, (2, .ofNat 0))), (30, (0, .ofNat 1), .inr (false, (3, .ofNat 0)))], []), 
  (4, [(1, .ofNat 1, .ofNat 2147483647), (2, .ofNat 0, .ofNat 600), (3, .negSucc 2147483647, .ofNat 2147483647)], [(2, 1, .negSucc 0)], [], [.inr (false, (0, .ofNat 1))], [(1, (0, .ofNat 1), .inr (false, (2, .ofNat 0))), (30, (0, .ofNat 1), .inr (false, (3, .ofNat 0)))], []), 
  (4, [(1, .ofNat 201, .ofNat 600), (2, .ofNat 201, .ofNat 600), (3, .negSucc 2147483647, .ofNat 2147483647)], [(1, 2, .ofNat 0)], [], [.inr (false, (0, .ofNat 1))], [(1, (0, .ofNat 1), .inr (false, (2, .ofNat 0))), (30, (0, .ofNat 1), .inr (false, (3, .ofNat 0)))], []), 
  (8, [(1, .ofNat 0, .ofNat 200), (2, .ofNat 0, .ofNat 600), (3, .negSucc 0, .ofNat 600), (4, .ofNat 0, .ofNat 200), (5, .ofNat 0, .ofNat 4), (6, .ofNat 0, .ofNat 4), (7, .negSucc 8, .ofNat 127)], [(1, 4, .ofNat 0), (4, 1, .ofNat 0), (4, 2, .ofNat 0), (6, 7, .ofNat 10), (1, 2, .ofNat 0)], [], [.inr (false, (0, .ofNat 0))], [(0, (0, .ofNat 1), .inr (false, (3, .ofNat 0))), (1, (0, .ofNat 1), .inr (false, (0, .ofNat 0))), (1, (0, .ofNat 2), .inr (false, (4, .ofNat 0))), (1, (0, .ofNat 3), .inr (false, (5, .ofNat 0))), (1, (0, .ofNat 7), .inr (false, (0, .ofNat 0))), (1, (0, .ofNat 8), .inr (false, (6, .ofNat 0))), (1, (0, .ofNat 9), .inr (false, (3, .ofNat 0))), (578, (0, .ofNat 0), .inr (true, (7, .ofNat 0)))], [])], [], 1, 6)
def cu1932 : List sxCu := []
set_option maxRecDepth 1000000 in
theorem cv1932 {gh : sxGh} (hg : sxGd sxKw gh) : sxCtV sxKw gh ct1932 := sxMeB_ok (cts := [ct1931]) (cuts := cu1932) (sp := []) 77 (by decide +kernel) hg (by decide) (by decide) (List.forall_mem_cons.mpr ⟨cv1931 hg, (fun _ h => absurd h List.not_mem_nil)⟩)
/-- LotBeliefsModel.blanks -/
def ct1933 : sxCt := (200, 1, (3, [(1, .ofNat 0, .ofNat 600), (2, .ofNat 0, .ofNat 600)], [], [(0, .inl 78)], [], [(78, (0, .ofNat 2), .inr (false, (1, .ofNat 0))), (78, (0, .ofNat 4), .inr (false, (2, .ofNat 0)))], []), [(78, 5), (579, 5)], [
  (4, [(1, .ofNat 0, .ofNat 600), (2, .ofNat 0, .ofNat 600), (3, .ofNat 0, .ofNat 600)], [(2, 3, .ofNat 0)], [], [], [(78, (0, .ofNat 2), .inr (false, (1, .ofNat 0))), (78, (0, .ofNat 4), .inr (false, (3, .ofNat 0)))], [])], [], 0, 0)
def cu1933 : List sxCu := [
  (0, (4, [(1, .ofNat 1, .ofNat 600), (2, .ofNat 0, .ofNat 599), (3, .ofNat 1, .ofNat 600)], [(2, 3, .negSucc 0)], [(0, .inl 78)], [], [(78, (0, .ofNat 2), .inr (false, (1, .ofNat 0))), (78, (0, .ofNat 4), .inr (false, (3, .ofNat 0))), (78, (0, .ofNat 9), .inl 79)], []), ((0, 3, .ofNat 600), (0, 0, .ofNat 0), (0, 0, .ofNat 0)), 0, 0)]
set_option maxRecDepth 1000000 in
theorem cv1933 {gh : sxGh} (hg : sxGd sxKw gh) : sxCtV sxKw gh ct1933 := sxMeB_ok (cts := []) (cuts := cu1933) (sp := []) 118 (by decide +kernel) hg (by decide) (by decide) (fun _ h => absurd h List.not_mem_nil)
/-- LotBeliefsModel.wordHere -/
def ct1934 : sxCt := (205, 2, (3, [(1, .ofNat 0, .ofNat 600), (2, .ofNat 0, .ofNat 600)], [], [(0, .inl 78)], [], [(78, (0, .ofNat 2), .inr (false, (1, .ofNat 0))), (78, (0, .ofNat 4), .inr (false, (2, .ofNat 0)))], []), [(78, 5), (579, 5)], [
  (4, [(1, .ofNat 0, .ofNat 600), (2, .ofNat 0, .ofNat 600), (3, .ofNat 0, .ofNat 600)], [(2, 3, .ofNat 0)], [], [.inr (false, (0, .ofNat 0))], [(78, (0, .ofNat 2), .inr (false, (1, .ofNat 0))), (78, (0, .ofNat 4), .inr (false, (3, .ofNat 0)))], []), 
  (6, [(1, .ofNat 1, .ofNat 600), (2, .ofNat 0, .ofNat 599), (3, .ofNat 1, .ofNat 387420488), (4, .ofNat 0, .ofNat 599), (5, .ofNat 97, .ofNat 122)], [(2, 4, .ofNat 0), (4, 1, .negSucc 0), (5, 3, .ofNat 96)], [], [.inr (false, (3, .ofNat 0))], [(78, (0, .ofNat 2), .inr (false, (1, .ofNat 0))), (78, (0, .ofNat 4), .inr (false, (4, .ofNat 0))), (79, (4, .ofNat 0), .inr (false, (5, .ofNat 0)))], []), 
  (5, [(1, .ofNat 7, .ofNat 600), (2, .ofNat 0, .ofNat 593), (3, .ofNat 0, .ofNat 593), (4, .ofNat 97, .ofNat 122)], [(2, 3, .ofNat 0), (3, 1, .negSucc 6)], [], [.inr (false, (0, .negSucc 0))], [(78, (0, .ofNat 2), .inr (false, (1, .ofNat 0))), (78, (0, .ofNat 4), .inr (false, (3, .ofNat 0))), (79, (3, .ofNat 0), .inr (false, (4, .ofNat 0)))], [])], [], 0, 0)
def cu1934 : List sxCu := [
  (53, (7, [(1, .ofNat 7, .ofNat 600), (2, .ofNat 0, .ofNat 593), (3, .ofNat 14900788, .ofNat 387420488), (4, .ofNat 6, .ofNat 600), (5, .ofNat 0, .ofNat 593), (6, .ofNat 97, .ofNat 122)], [(2, 5, .ofNat 0), (5, 1, .negSucc 6)], [(0, .inl 78), (1, .inr (false, (3, .ofNat 0))), (2, .inr (false, (4, .ofNat 0)))], [], [(78, (0, .ofNat 2), .inr (false, (1, .ofNat 0))), (78, (0, .ofNat 4), .inr (false, (5, .ofNat 0))), (78, (0, .ofNat 9), .inl 79), (79, (5, .ofNat 0), .inr (false, (6, .ofNat 0)))], []), ((0, 4, .ofNat 600), (0, 0, .ofNat 0), (0, 0, .ofNat 0)), 0, 0)]
set_option maxRecDepth 1000000 in
theorem cv1934 {gh : sxGh} (hg : sxGd sxKw gh) : sxCtV sxKw gh ct1934 := sxMeB_ok (cts := [ct1933]) (cuts := cu1934) (sp := []) 716 (by decide +kernel) hg (by decide) (by decide) (List.forall_mem_cons.mpr ⟨cv1933 hg, (fun _ h => absurd h List.not_mem_nil)⟩)
/-- LotBeliefsModel.isWord -/
def ct1935 : sxCt := (207, 3, (4, [(1, .ofNat 0, .ofNat 4), (2, .ofNat 0, .ofNat 600), (3, .ofNat 0, .ofNat 600)], [], [(0, .inl 78), (1, .inr (false, (0, .ofNat 14))), (2, .inr (false, (0, .ofNat 15))), (3, .inr (false, (0, .ofNat 20))), (4, .inr (false, (0, .ofNat 0))), (5, .inr (false, (0, .ofNat 0))), (6, .inr (false, (0, .ofNat 0)))], [], [(78, (0, .ofNat 5), .inr (false, (1, .ofNat 0))), (78, (0, .ofNat 2), .inr (false, (2, .ofNat 0))), (78, (0, .ofNat 4), .inr (false, (3, .ofNat 0)))], []), [(78, 5), (579, 5)], [
  (5, [(1, .ofNat 0, .ofNat 0), (2, .ofNat 0, .ofNat 600), (3, .ofNat 0, .ofNat 600), (4, .ofNat 0, .ofNat 600)], [(3, 4, .ofNat 0)], [], [.inr (false, (0, .ofNat 0))], [(78, (0, .ofNat 2), .inr (false, (2, .ofNat 0))), (78, (0, .ofNat 4), .inr (false, (4, .ofNat 0))), (78, (0, .ofNat 5), .inr (false, (1, .ofNat 0)))], []), 
  (6, [(1, .ofNat 0, .ofNat 0), (2, .ofNat 1, .ofNat 600), (3, .ofNat 0, .ofNat 599), (4, .ofNat 0, .ofNat 599), (5, .ofNat 97, .ofNat 122)], [(3, 4, .ofNat 0), (4, 2, .negSucc 0)], [], [.inr (false, (0, .ofNat 1))], [(78, (0, .ofNat 2), .inr (false, (2, .ofNat 0))), (78, (0, .ofNat 4), .inr (false, (4, .ofNat 0))), (78, (0, .ofNat 5), .inr (false, (1, .ofNat 0))), (79, (4, .ofNat 0), .inr (false, (5, .ofNat 0)))], []), 
  (4, [(1, .ofNat 1, .ofNat 4), (2, .ofNat 0, .ofNat 600), (3, .ofNat 0, .ofNat 600)], [], [], [.inr (false, (0, .ofNat 0))], [(78, (0, .ofNat 2), .inr (false, (2, .ofNat 0))), (78, (0, .ofNat 4), .inr (false, (3, .ofNat 0))), (78, (0, .ofNat 5), .inr (false, (1, .ofNat 0)))], [])], [], 0, 0)
def cu1935 : List sxCu := []
set_option maxRecDepth 1000000 in
theorem cv1935 {gh : sxGh} (hg : sxGd sxKw gh) : sxCtV sxKw gh ct1935 := sxMeB_ok (cts := [ct1934]) (cuts := cu1935) (sp := []) 188 (by decide +kernel) hg (by decide) (by decide) (List.forall_mem_cons.mpr ⟨cv1934 hg, (fun _ h => absurd h List.not_mem_nil)⟩)
/-- LotBeliefsModel.skipWord -/
def ct1936 : sxCt := (208, 1, (4, [(1, .ofNat 0, .ofNat 600), (2, .ofNat 0, .ofNat 599), (3, .ofNat 97, .ofNat 122)], [(2, 1, .negSucc 0)], [(0, .inl 78)], [], [(78, (0, .ofNat 2), .inr (false, (1, .ofNat 0))), (78, (0, .ofNat 4), .inr (false, (2, .ofNat 0))), (79, (2, .ofNat 0), .inr (false, (3, .ofNat 0)))], []), [(78, 5), (579, 5)], [
  (5, [(1, .ofNat 1, .ofNat 600), (2, .ofNat 0, .ofNat 599), (3, .ofNat 97, .ofNat 122), (4, .ofNat 1, .ofNat 600)], [(2, 4, .negSucc 0), (4, 1, .ofNat 0), (2, 1, .negSucc 0)], [], [], [(78, (0, .ofNat 2), .inr (false, (1, .ofNat 0))), (78, (0, .ofNat 4), .inr (false, (4, .ofNat 0)))], [])], [], 0, 0)
def cu1936 : List sxCu := [
  (24, (5, [(1, .ofNat 1, .ofNat 600), (2, .ofNat 0, .ofNat 599), (3, .ofNat 97, .ofNat 122), (4, .ofNat 1, .ofNat 600)], [(2, 4, .negSucc 0), (4, 1, .ofNat 0), (2, 1, .negSucc 0)], [(0, .inl 78)], [], [(78, (0, .ofNat 2), .inr (false, (1, .ofNat 0))), (78, (0, .ofNat 4), .inr (false, (4, .ofNat 0))), (78, (0, .ofNat 9), .inl 79)], []), ((0, 4, .ofNat 600), (0, 0, .ofNat 0), (0, 0, .ofNat 0)), 0, 0)]
set_option maxRecDepth 1000000 in
theorem cv1936 {gh : sxGh} (hg : sxGd sxKw gh) : sxCtV sxKw gh ct1936 := sxMeB_ok (cts := []) (cuts := cu1936) (sp := []) 140 (by decide +kernel) hg (by decide) (by decide) (fun _ h => absurd h List.not_mem_nil)
/-- LotBeliefsModel.isWord -/
def ct1937 : sxCt := (207, 3, (4, [(1, .ofNat 0, .ofNat 4), (2, .ofNat 0, .ofNat 600), (3, .ofNat 0, .ofNat 600)], [], [(0, .inl 78), (1, .inr (false, (0, .ofNat 9))), (2, .inr (false, (0, .ofNat 6))), (3, .inr (false, (0, .ofNat 0))), (4, .inr (false, (0, .ofNat 0))), (5, .inr (false, (0, .ofNat 0))), (6, .inr (false, (0, .ofNat 0)))], [], [(78, (0, .ofNat 5), .inr (false, (1, .ofNat 0))), (78, (0, .ofNat 2), .inr (false, (2, .ofNat 0))), (78, (0, .ofNat 4), .inr (false, (3, .ofNat 0)))], []), [(78, 5), (579, 5)], [
  (5, [(1, .ofNat 0, .ofNat 0), (2, .ofNat 0, .ofNat 600), (3, .ofNat 0, .ofNat 600), (4, .ofNat 0, .ofNat 600)], [(3, 4, .ofNat 0)], [], [.inr (false, (0, .ofNat 0))], [(78, (0, .ofNat 2), .inr (false, (2, .ofNat 0))), (78, (0, .ofNat 4), .inr (false, (4, .ofNat 0))), (78, (0, .ofNat 5), .inr (false, (1, .ofNat 0)))], []), 
  (6, [(1, .ofNat 0, .ofNat 0), (2, .ofNat 1, .ofNat 600), (3, .ofNat 0, .ofNat 599), (4, .ofNat 0, .ofNat 599), (5, .ofNat 97, .ofNat 122)], [(3, 4, .ofNat 0), (4, 2, .negSucc 0)], [], [.inr (false, (0, .ofNat 1))], [(78, (0, .ofNat 2), .inr (false, (2, .ofNat 0))), (78, (0, .ofNat 4), .inr (false, (4, .ofNat 0))), (78, (0, .ofNat 5), .inr (false, (1, .ofNat 0))), (79, (4, .ofNat 0), .inr (false, (5, .ofNat 0)))], []), 
  (4, [(1, .ofNat 1, .ofNat 4), (2, .ofNat 0, .ofNat 600), (3, .ofNat 0, .ofNat 600)], [], [], [.inr (false, (0, .ofNat 0))], [(78, (0, .ofNat 2), .inr (false, (2, .ofNat 0))), (78, (0, .ofNat 4), .inr (false, (3, .ofNat 0))), (78, (0, .ofNat 5), .inr (false, (1, .ofNat 0)))], [])], [], 0, 0)
def cu1937 : List sxCu := []
set_option maxRecDepth 1000000 in
theorem cv1937 {gh : sxGh} (hg : sxGd sxKw gh) : sxCtV sxKw gh ct1937 := sxMeB_ok (cts := [ct1934]) (cuts := cu1937) (sp := []) 179 (by decide +kernel) hg (by decide) (by decide) (List.forall_mem_cons.mpr ⟨cv1934 hg, (fun _ h => absurd h List.not_mem_nil)⟩)
/-- LotBeliefsModel.wordHere -/
def ct1938 : sxCt := (205, 2, (4, [(1, .ofNat 0, .ofNat 600), (2, .ofNat 0, .ofNat 600), (3, .ofNat 0, .ofNat 255)], [], [(0, .inl 78)], [], [(78, (0, .ofNat 2), .inr (false, (1, .ofNat 0))), (78, (0, .ofNat 4), .inr (false, (2, .ofNat 0))), (79, (2, .ofNat 0), .inr (false, (3, .ofNat 0)))], []), [(78, 5), (579, 5)], [
  (5, [(1, .ofNat 0, .ofNat 600), (2, .ofNat 0, .ofNat 600), (3, .ofNat 0, .ofNat 255), (4, .ofNat 0, .ofNat 600)], [(2, 4, .ofNat 0)], [], [.inr (false, (0, .ofNat 0))], [(78, (0, .ofNat 2), .inr (false, (1, .ofNat 0))), (78, (0, .ofNat 4), .inr (false, (4, .ofNat 0)))], []), 
  (7, [(1, .ofNat 1, .ofNat 600), (2, .ofNat 0, .ofNat 599), (3, .ofNat 0, .ofNat 255), (4, .ofNat 1, .ofNat 387420488), (5, .ofNat 0, .ofNat 599), (6, .ofNat 97, .ofNat 122)], [(2, 5, .ofNat 0), (5, 1, .negSucc 0), (6, 4, .ofNat 96)], [], [.inr (false, (4, .ofNat 0))], [(78, (0, .ofNat 2), .inr (false, (1, .ofNat 0))), (78, (0, .ofNat 4), .inr (false, (5, .ofNat 0))), (79, (5, .ofNat 0), .inr (false, (6, .ofNat 0)))], []), 
  (6, [(1, .ofNat 7, .ofNat 600), (2, .ofNat 0, .ofNat 593), (3, .ofNat 0, .ofNat 255), (4, .ofNat 0, .ofNat 593), (5, .ofNat 97, .ofNat 122)], [(2, 4, .ofNat 0), (4, 1, .negSucc 6)], [], [.inr (false, (0, .negSucc 0))], [(78, (0, .ofNat 2), .inr (false, (1, .ofNat 0))), (78, (0, .ofNat 4), .inr (false, (4, .ofNat 0))), (79, (4, .ofNat 0), .inr (false, (5, .ofNat 0)))], [])], [], 0, 0)
def cu1938 : List sxCu := [
  (53, (8, [(1, .ofNat 7, .ofNat 600), (2, .ofNat 0, .ofNat 593), (3, .ofNat 0, .ofNat 255), (4, .ofNat 14900788, .ofNat 387420488), (5, .ofNat 6, .ofNat 600), (6, .ofNat 0, .ofNat 593), (7, .ofNat 97, .ofNat 122)], [(2, 6, .ofNat 0), (6, 1, .negSucc 6)], [(0, .inl 78), (1, .inr (false, (4, .ofNat 0))), (2, .inr (false, (5, .ofNat 0)))], [], [(78, (0, .ofNat 2), .inr (false, (1, .ofNat 0))), (78, (0, .ofNat 4), .inr (false, (6, .ofNat 0))), (78, (0, .ofNat 9), .inl 79), (79, (6, .ofNat 0), .inr (false, (7, .ofNat 0)))], []), ((0, 5, .ofNat 600), (0, 0, .ofNat 0), (0, 0, .ofNat 0)), 0, 0)]
set_option maxRecDepth 1000000 in
theorem cv1938 {gh : sxGh} (hg : sxGd sxKw gh) : sxCtV sxKw gh ct1938 := sxMeB_ok (cts := [ct1933]) (cuts := cu1938) (sp := []) 716 (by decide +kernel) hg (by decide) (by decide) (List.forall_mem_cons.mpr ⟨cv1933 hg, (fun _ h => absurd h List.not_mem_nil)⟩)
/-- LotBeliefsModel.isWord -/
def ct1939 : sxCt := (207, 3, (5, [(1, .ofNat 0, .ofNat 4), (2, .ofNat 0, .ofNat 600), (3, .ofNat 0, .ofNat 600), (4, .ofNat 0, .ofNat 255)], [], [(0, .inl 78), (1, .inr (false, (0, .ofNat 9))), (2, .inr (false, (0, .ofNat 6))), (3, .inr (false, (0, .ofNat 0))), (4, .inr (false, (0, .ofNat 0))), (5, .inr (false, (0, .ofNat 0))), (6, .inr (false, (0, .ofNat 0)))], [], [(78, (0, .ofNat 5), .inr (false, (1, .ofNat 0))), (78, (0, .ofNat 2), .inr (false, (2, .ofNat 0))), (78, (0, .ofNat 4), .inr (false, (3, .ofNat 0))), (79, (3, .ofNat 0), .inr (false, (4, .ofNat 0)))], []), [(78, 5), (579, 5)], [
  (6, [(1, .ofNat 0, .ofNat 0), (2, .ofNat 0, .ofNat 600), (3, .ofNat 0, .ofNat 600), (4, .ofNat 0, .ofNat 255), (5, .ofNat 0, .ofNat 600)], [(3, 5, .ofNat 0)], [], [.inr (false, (0, .ofNat 0))], [(78, (0, .ofNat 2), .inr (false, (2, .ofNat 0))), (78, (0, .ofNat 4), .inr (false, (5, .ofNat 0))), (78, (0, .ofNat 5), .inr (false, (1, .ofNat 0)))], []), 
  (7, [(1, .ofNat 0, .ofNat 0), (2, .ofNat 1, .ofNat 600), (3, .ofNat 0, .ofNat 599), (4, .ofNat 0, .ofNat 255), (5, .ofNat 0, .ofNat 599), (6, .ofNat 97, .ofNat 122)], [(3, 5, .ofNat 0), (5, 2, .negSucc 0)], [], [.inr (false, (0, .ofNat 1))], [(78, (0, .ofNat 2), .inr (false, (2, .ofNat 0))), (78, (0, .ofNat 4), .inr (false, (5, .ofNat 0))), (78, (0, .ofNat 5), .inr (false, (1, .ofNat 0))), (79, (5, .ofNat 0), .inr (false, (6, .ofNat 0)))], []), 
  (5, [(1, .ofNat 1, .ofNat 4), (2, .ofNat 0, .ofNat 600), (3, .ofNat 0, .ofNat 600), (4, .ofNat 0, .ofNat 255)], [], [], [.inr (false, (0, .ofNat 0))], [(78, (0, .ofNat 2), .inr (false, (2, .ofNat 0))), (78, (0, .ofNat 4), .inr (false, (3, .ofNat 0))), (78, (0, .ofNat 5), .inr (false, (1, .ofNat 0))), (79, (3, .ofNat 0), .inr (false, (4, .ofNat 0)))], [])], [], 0, 0)
def cu1939 : List sxCu := []
set_option maxRecDepth 1000000 in
theorem cv1939 {gh : sxGh} (hg : sxGd sxKw gh) : sxCtV sxKw gh ct1939 := sxMeB_ok (cts := [ct1938]) (cuts := cu1939) (sp := []) 179 (by decide +kernel) hg (by decide) (by decide) (List.forall_mem_cons.mpr ⟨cv1938 hg, (fun _ h => absurd h List.not_mem_nil)⟩)
/-- LotBeliefsModel.atomOf -/
def ct1940 : sxCt := (215, 0, (2, [(1, .ofNat 0, .ofNat 5)], [], [(0, .inr (false, (1, .ofNat 0))), (1, .inr (false, (0, .ofNat 6)))], [], [], []), [], [
  (3, [(1, .ofNat 0, .ofNat 5), (2, .negSucc 9223372036854775807, .ofNat 9223372036854775807)], [], [], [.inr (true, (2, .ofNat 0))], [], [])], [], 0, 0)
def cu1940 : List sxCu := []
set_option maxRecDepth 1000000 in
theorem cv1940 {gh : sxGh} (hg : sxGd sxKw gh) : sxCtV sxKw gh ct1940 := sxMeB_ok (cts := []) (cuts := cu1940) (sp := []) 1223 (by decide +kernel) hg (by decide) (by decide) (fun _ h => absurd h List.not_mem_nil)
end SXC

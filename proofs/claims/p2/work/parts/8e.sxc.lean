/-! SX: contracts, by program -/
section SXC
/-- LotBeliefs.Sentence.readPart -/
def ct1870 : sxCt := (43, 23, (1, [], [], [(0, .inl 1), (1, .inl 11)], [], [(1, (0, .ofNat 7), .inr (false, (0, .ofNat 1)))], []), [(1, 4), (1, 5), (1, 6), (1, 7), (1, 8), (1, 9), (1, 10)], [
  (3, [(1, .negSucc 9223372036854775807, .ofNat 9223372036854775807), (2, .ofNat 0, .ofNat 4)], [], [], [.inr (true, (1, .ofNat 0))], [(1, (0, .ofNat 3), .inr (false, (2, .ofNat 0))), (1, (0, .ofNat 7), .inr (false, (0, .ofNat 1)))], [])], [], 0, 0)
def cu1870 : List sxCu := []
set_option maxRecDepth 1000000 in
theorem cv1870 {gh : sxGh} (hg : sxGd sxKw gh) : sxCtV sxKw gh ct1870 := sxMeB_ok (cts := [ct1864, ct1865, ct1868, ct1869, ct1826, ct1828]) (cuts := cu1870) (sp := []) 118 (by decide +kernel) hg (by decide) (by decide) (List.forall_mem_cons.mpr ⟨cv1864 hg, (List.forall_mem_cons.mpr ⟨cv1865 hg, (List.forall_mem_cons.mpr ⟨cv1868 hg, (List.forall_mem_cons.mpr ⟨cv1869 hg, (List.forall_mem_cons.mpr ⟨cv1826 hg, (List.forall_mem_cons.mpr ⟨cv1828 hg, (fun _ h => absurd h List.not_mem_nil)⟩)⟩)⟩)⟩)⟩)⟩)
/-- LotBeliefs.Sentence.readNot -/
def ct1871 : sxCt := (44, 24, (1, [], [], [(0, .inl 1), (1, .inl 11)], [], [(1, (0, .ofNat 7), .inr (false, (0, .ofNat 0)))], []), [(1, 4), (1, 5), (1, 6), (1, 7), (1, 8), (1, 9), (1, 10)], [
  (3, [(1, .negSucc 9223372036854775807, .ofNat 9223372036854775807), (2, .ofNat 0, .ofNat 4)], [], [], [.inr (true, (1, .ofNat 0))], [(1, (0, .ofNat 3), .inr (false, (2, .ofNat 0))), (1, (0, .ofNat 7), .inr (false, (0, .ofNat 0)))], [])], [], 0, 0)
def cu1871 : List sxCu := []
set_option maxRecDepth 1000000 in
theorem cv1871 {gh : sxGh} (hg : sxGd sxKw gh) : sxCtV sxKw gh ct1871 := sxMeB_ok (cts := [ct1870, ct1596]) (cuts := cu1871) (sp := []) 99 (by decide +kernel) hg (by decide) (by decide) (List.forall_mem_cons.mpr ⟨cv1870 hg, (List.forall_mem_cons.mpr ⟨cv1596 hg, (fun _ h => absurd h List.not_mem_nil)⟩)⟩)
/-- LotBeliefs.Sentence.readIf -/
def ct1872 : sxCt := (45, 24, (1, [], [], [(0, .inl 1), (1, .inl 11)], [], [(1, (0, .ofNat 7), .inr (false, (0, .ofNat 0)))], []), [(1, 4), (1, 5), (1, 6), (1, 7), (1, 8), (1, 9), (1, 10)], [
  (3, [(1, .negSucc 9223372036854775807, .ofNat 9223372036854775807), (2, .ofNat 0, .ofNat 4)], [], [], [.inr (true, (1, .ofNat 0))], [(1, (0, .ofNat 3), .inr (false, (2, .ofNat 0))), (1, (0, .ofNat 7), .inr (false, (0, .ofNat 0)))], [])], [], 0, 0)
def cu1872 : List sxCu := []
set_option maxRecDepth 1000000 in
theorem cv1872 {gh : sxGh} (hg : sxGd sxKw gh) : sxCtV sxKw gh ct1872 := sxMeB_ok (cts := [ct1870, ct1596, ct1834]) (cuts := cu1872) (sp := []) 177 (by decide +kernel) hg (by decide) (by decide) (List.forall_mem_cons.mpr ⟨cv1870 hg, (List.forall_mem_cons.mpr ⟨cv1596 hg, (List.forall_mem_cons.mpr ⟨cv1834 hg, (fun _ h => absurd h List.not_mem_nil)⟩)⟩)⟩)
/-- LotBeliefs.Sentence.readEach -/
def ct1873 : sxCt := (42, 24, (1, [], [], [(0, .inl 1), (1, .inl 11)], [], [(1, (0, .ofNat 7), .inr (false, (0, .ofNat 1)))], []), [(1, 4), (1, 5), (1, 6), (1, 7), (1, 8), (1, 9), (1, 10)], [
  (3, [(1, .negSucc 9223372036854775807, .ofNat 9223372036854775807), (2, .ofNat 0, .ofNat 4)], [], [], [.inr (true, (1, .ofNat 0))], [(1, (0, .ofNat 3), .inr (false, (2, .ofNat 0))), (1, (0, .ofNat 7), .inr (false, (0, .ofNat 1)))], [])], [], 0, 0)
def cu1873 : List sxCu := [
  (9, (4, [(1, .negSucc 9223372036854775807, .ofNat 9223372036854775807), (2, .ofNat 0, .ofNat 600), (3, .ofNat 0, .ofNat 4)], [], [(0, .inl 1), (1, .inl 11), (2, .inr (true, (1, .ofNat 0))), (4, .inr (false, (2, .ofNat 0)))], [], [(1, (0, .ofNat 3), .inr (false, (3, .ofNat 0))), (1, (0, .ofNat 7), .inr (false, (0, .ofNat 1)))], []), ((0, 2, .ofNat 600), (0, 0, .ofNat 0), (0, 0, .ofNat 0)), 0, 0)]
set_option maxRecDepth 1000000 in
theorem cv1873 {gh : sxGh} (hg : sxGd sxKw gh) : sxCtV sxKw gh ct1873 := sxMeB_ok (cts := [ct1870, ct1596, ct1836]) (cuts := cu1873) (sp := []) 92 (by decide +kernel) hg (by decide) (by decide) (List.forall_mem_cons.mpr ⟨cv1870 hg, (List.forall_mem_cons.mpr ⟨cv1596 hg, (List.forall_mem_cons.mpr ⟨cv1836 hg, (fun _ h => absurd h List.not_mem_nil)⟩)⟩)⟩)
/-- LotBeliefs.Sentence.readEither -/
def ct1874 : sxCt := (41, 25, (1, [], [], [(0, .inl 1), (1, .inl 11)], [], [(1, (0, .ofNat 7), .inr (false, (0, .ofNat 1)))], []), [(1, 4), (1, 5), (1, 6), (1, 7), (1, 8), (1, 9), (1, 10)], [
  (3, [(1, .negSucc 9223372036854775807, .ofNat 9223372036854775807), (2, .ofNat 0, .ofNat 4)], [], [], [.inr (true, (1, .ofNat 0))], [(1, (0, .ofNat 3), .inr (false, (2, .ofNat 0))), (1, (0, .ofNat 7), .inr (false, (0, .ofNat 1)))], [])], [], 0, 0)
def cu1874 : List sxCu := [
  (9, (4, [(1, .negSucc 9223372036854775807, .ofNat 9223372036854775807), (2, .ofNat 0, .ofNat 600), (3, .ofNat 0, .ofNat 4)], [], [(0, .inl 1), (1, .inl 11), (2, .inr (true, (1, .ofNat 0))), (4, .inr (false, (2, .ofNat 0)))], [], [(1, (0, .ofNat 3), .inr (false, (3, .ofNat 0))), (1, (0, .ofNat 7), .inr (false, (0, .ofNat 1)))], []), ((0, 2, .ofNat 600), (0, 0, .ofNat 0), (0, 0, .ofNat 0)), 0, 0)]
set_option maxRecDepth 1000000 in
theorem cv1874 {gh : sxGh} (hg : sxGd sxKw gh) : sxCtV sxKw gh ct1874 := sxMeB_ok (cts := [ct1873, ct1596, ct1838]) (cuts := cu1874) (sp := []) 92 (by decide +kernel) hg (by decide) (by decide) (List.forall_mem_cons.mpr ⟨cv1873 hg, (List.forall_mem_cons.mpr ⟨cv1596 hg, (List.forall_mem_cons.mpr ⟨cv1838 hg, (fun _ h => absurd h List.not_mem_nil)⟩)⟩)⟩)
/-- LotBeliefs.Sentence.readBrackets -/
def ct1875 : sxCt := (46, 26, (1, [], [], [(0, .inl 1), (1, .inl 11)], [], [(1, (0, .ofNat 7), .inr (false, (0, .ofNat 0)))], []), [(1, 4), (1, 5), (1, 6), (1, 7), (1, 8), (1, 9), (1, 10)], [
  (3, [(1, .negSucc 9223372036854775807, .ofNat 9223372036854775807), (2, .ofNat 0, .ofNat 4)], [], [], [.inr (true, (1, .ofNat 0))], [(1, (0, .ofNat 3), .inr (false, (2, .ofNat 0))), (1, (0, .ofNat 7), .inr (false, (0, .ofNat 0)))], [])], [], 0, 0)
def cu1875 : List sxCu := []
set_option maxRecDepth 1000000 in
theorem cv1875 {gh : sxGh} (hg : sxGd sxKw gh) : sxCtV sxKw gh ct1875 := sxMeB_ok (cts := [ct1874, ct1596]) (cuts := cu1875) (sp := []) 196 (by decide +kernel) hg (by decide) (by decide) (List.forall_mem_cons.mpr ⟨cv1874 hg, (List.forall_mem_cons.mpr ⟨cv1596 hg, (fun _ h => absurd h List.not_mem_nil)⟩)⟩)
/-- LotBeliefs.Sentence.readAtom -/
def ct1876 : sxCt := (47, 1, (1, [], [], [(0, .inl 1), (1, .inl 11)], [], [(1, (0, .ofNat 7), .inr (false, (0, .ofNat 0)))], []), [(1, 4), (1, 5), (1, 6), (1, 7), (1, 9), (1, 10)], [
  (3, [(1, .negSucc 9223372036854775807, .ofNat 9223372036854775807), (2, .ofNat 0, .ofNat 4)], [], [], [.inr (true, (1, .ofNat 0))], [(1, (0, .ofNat 3), .inr (false, (2, .ofNat 0))), (1, (0, .ofNat 7), .inr (false, (0, .ofNat 0)))], [])], [], 0, 0)
def cu1876 : List sxCu := []
set_option maxRecDepth 1000000 in
theorem cv1876 {gh : sxGh} (hg : sxGd sxKw gh) : sxCtV sxKw gh ct1876 := sxMeB_ok (cts := [ct1596]) (cuts := cu1876) (sp := []) 222 (by decide +kernel) hg (by decide) (by decide) (List.forall_mem_cons.mpr ⟨cv1596 hg, (fun _ h => absurd h List.not_mem_nil)⟩)
/-- LotBeliefs.Sentence.readPart -/
def ct1877 : sxCt := (43, 27, (1, [], [], [(0, .inl 1), (1, .inl 11)], [], [(1, (0, .ofNat 7), .inr (false, (0, .ofNat 0)))], []), [(1, 4), (1, 5), (1, 6), (1, 7), (1, 8), (1, 9), (1, 10)], [
  (3, [(1, .negSucc 9223372036854775807, .ofNat 9223372036854775807), (2, .ofNat 0, .ofNat 4)], [], [], [.inr (true, (1, .ofNat 0))], [(1, (0, .ofNat 3), .inr (false, (2, .ofNat 0))), (1, (0, .ofNat 7), .inr (false, (0, .ofNat 0)))], [])], [], 0, 0)
def cu1877 : List sxCu := []
set_option maxRecDepth 1000000 in
theorem cv1877 {gh : sxGh} (hg : sxGd sxKw gh) : sxCtV sxKw gh ct1877 := sxMeB_ok (cts := [ct1871, ct1872, ct1875, ct1876, ct1826, ct1828]) (cuts := cu1877) (sp := []) 118 (by decide +kernel) hg (by decide) (by decide) (List.forall_mem_cons.mpr ⟨cv1871 hg, (List.forall_mem_cons.mpr ⟨cv1872 hg, (List.forall_mem_cons.mpr ⟨cv1875 hg, (List.forall_mem_cons.mpr ⟨cv1876 hg, (List.forall_mem_cons.mpr ⟨cv1826 hg, (List.forall_mem_cons.mpr ⟨cv1828 hg, (fun _ h => absurd h List.not_mem_nil)⟩)⟩)⟩)⟩)⟩)⟩)
/-- LotBeliefs.Sentence.readEach -/
def ct1878 : sxCt := (42, 28, (1, [], [], [(0, .inl 1), (1, .inl 11)], [], [(1, (0, .ofNat 7), .inr (false, (0, .ofNat 0)))], []), [(1, 4), (1, 5), (1, 6), (1, 7), (1, 8), (1, 9), (1, 10)], [
  (3, [(1, .negSucc 9223372036854775807, .ofNat 9223372036854775807), (2, .ofNat 0, .ofNat 4)], [], [], [.inr (true, (1, .ofNat 0))], [(1, (0, .ofNat 3), .inr (false, (2, .ofNat 0))), (1, (0, .ofNat 7), .inr (false, (0, .ofNat 0)))], [])], [], 0, 0)
def cu1878 : List sxCu := [
  (9, (4, [(1, .negSucc 9223372036854775807, .ofNat 9223372036854775807), (2, .ofNat 0, .ofNat 600), (3, .ofNat 0, .ofNat 4)], [], [(0, .inl 1), (1, .inl 11), (2, .inr (true, (1, .ofNat 0))), (4, .inr (false, (2, .ofNat 0)))], [], [(1, (0, .ofNat 3), .inr (false, (3, .ofNat 0))), (1, (0, .ofNat 7), .inr (false, (0, .ofNat 0)))], []), ((0, 2, .ofNat 600), (0, 0, .ofNat 0), (0, 0, .ofNat 0)), 0, 0)]
set_option maxRecDepth 1000000 in
theorem cv1878 {gh : sxGh} (hg : sxGd sxKw gh) : sxCtV sxKw gh ct1878 := sxMeB_ok (cts := [ct1877, ct1596, ct1836]) (cuts := cu1878) (sp := []) 92 (by decide +kernel) hg (by decide) (by decide) (List.forall_mem_cons.mpr ⟨cv1877 hg, (List.forall_mem_cons.mpr ⟨cv1596 hg, (List.forall_mem_cons.mpr ⟨cv1836 hg, (fun _ h => absurd h List.not_mem_nil)⟩)⟩)⟩)
/-- LotBeliefs.Sentence.readEither -/
def ct1879 : sxCt := (41, 29, (1, [], [], [(0, .inl 1), (1, .inl 11)], [], [(1, (0, .ofNat 7), .inr (false, (0, .ofNat 0)))], []), [(1, 4), (1, 5), (1, 6), (1, 7), (1, 8), (1, 9), (1, 10)], [
  (3, [(1, .negSucc 9223372036854775807, .ofNat 9223372036854775807), (2, .ofNat 0, .ofNat 4)], [], [], [.inr (true, (1, .ofNat 0))], [(1, (0, .ofNat 3), .inr (false, (2, .ofNat 0))), (1, (0, .ofNat 7), .inr (false, (0, .ofNat 0)))], [])], [], 0, 0)
def cu1879 : List sxCu := [
  (9, (4, [(1, .negSucc 9223372036854775807, .ofNat 9223372036854775807), (2, .ofNat 0, .ofNat 600), (3, .ofNat 0, .ofNat 4)], [], [(0, .inl 1), (1, .inl 11), (2, .inr (true, (1, .ofNat 0))), (4, .inr (false, (2, .ofNat 0)))], [], [(1, (0, .ofNat 3), .inr (false, (3, .ofNat 0))), (1, (0, .ofNat 7), .inr (false, (0, .ofNat 0)))], []), ((0, 2, .ofNat 600), (0, 0, .ofNat 0), (0, 0, .ofNat 0)), 0, 0)]
set_option maxRecDepth 1000000 in
theorem cv1879 {gh : sxGh} (hg : sxGd sxKw gh) : sxCtV sxKw gh ct1879 := sxMeB_ok (cts := [ct1878, ct1596, ct1838]) (cuts := cu1879) (sp := []) 92 (by decide +kernel) hg (by decide) (by decide) (List.forall_mem_cons.mpr ⟨cv1878 hg, (List.forall_mem_cons.mpr ⟨cv1596 hg, (List.forall_mem_cons.mpr ⟨cv1838 hg, (fun _ h => absurd h List.not_mem_nil)⟩)⟩)⟩)
/-- LotBeliefs.Sentence.readAlone -/
def ct1880 : sxCt := (40, 30, (1, [], [], [(0, .inl 1), (1, .inl 11)], [], [(1, (0, .ofNat 7), .inr (false, (0, .ofNat 0)))], []), [(1, 4), (1, 5), (1, 6), (1, 7), (1, 8), (1, 9), (1, 10)], [
  (3, [(1, .negSucc 9223372036854775807, .ofNat 9223372036854775807), (2, .ofNat 0, .ofNat 4)], [], [], [.inr (true, (1, .ofNat 0))], [(1, (0, .ofNat 3), .inr (false, (2, .ofNat 0))), (1, (0, .ofNat 7), .inr (false, (0, .ofNat 0)))], [])], [], 0, 0)
def cu1880 : List sxCu := []
set_option maxRecDepth 1000000 in
theorem cv1880 {gh : sxGh} (hg : sxGd sxKw gh) : sxCtV sxKw gh ct1880 := sxMeB_ok (cts := [ct1879]) (cuts := cu1880) (sp := []) 108 (by decide +kernel) hg (by decide) (by decide) (List.forall_mem_cons.mpr ⟨cv1879 hg, (fun _ h => absurd h List.not_mem_nil)⟩)
/-- LotBeliefs.Sentence.readNot -/
def ct1881 : sxCt := (44, 2, (1, [], [], [(0, .inl 1), (1, .inl 3)], [], [(1, (0, .ofNat 7), .inr (false, (0, .ofNat 6)))], []), [(1, 4), (1, 9), (1, 10)], [
  (1, [], [], [], [.inr (true, (0, .ofNat 0))], [(1, (0, .ofNat 3), .inr (false, (0, .ofNat 4))), (1, (0, .ofNat 7), .inr (false, (0, .ofNat 6)))], [])], [], 0, 0)
def cu1881 : List sxCu := []
set_option maxRecDepth 1000000 in
theorem cv1881 {gh : sxGh} (hg : sxGd sxKw gh) : sxCtV sxKw gh ct1881 := sxMeB_ok (cts := []) (cuts := cu1881) (sp := []) 95 (by decide +kernel) hg (by decide) (by decide) (fun _ h => absurd h List.not_mem_nil)
/-- LotBeliefs.Sentence.readIf -/
def ct1882 : sxCt := (45, 2, (1, [], [], [(0, .inl 1), (1, .inl 3)], [], [(1, (0, .ofNat 7), .inr (false, (0, .ofNat 6)))], []), [(1, 4), (1, 9), (1, 10)], [
  (1, [], [], [], [.inr (true, (0, .ofNat 0))], [(1, (0, .ofNat 3), .inr (false, (0, .ofNat 4))), (1, (0, .ofNat 7), .inr (false, (0, .ofNat 6)))], [])], [], 0, 0)
def cu1882 : List sxCu := []
set_option maxRecDepth 1000000 in
theorem cv1882 {gh : sxGh} (hg : sxGd sxKw gh) : sxCtV sxKw gh ct1882 := sxMeB_ok (cts := []) (cuts := cu1882) (sp := []) 95 (by decide +kernel) hg (by decide) (by decide) (fun _ h => absurd h List.not_mem_nil)
/-- LotBeliefs.Sentence.readBrackets -/
def ct1883 : sxCt := (46, 2, (1, [], [], [(0, .inl 1), (1, .inl 3)], [], [(1, (0, .ofNat 7), .inr (false, (0, .ofNat 6)))], []), [(1, 4), (1, 9), (1, 10)], [
  (1, [], [], [], [.inr (true, (0, .ofNat 0))], [(1, (0, .ofNat 3), .inr (false, (0, .ofNat 4))), (1, (0, .ofNat 7), .inr (false, (0, .ofNat 6)))], [])], [], 0, 0)
def cu1883 : List sxCu := []
set_option maxRecDepth 1000000 in
theorem cv1883 {gh : sxGh} (hg : sxGd sxKw gh) : sxCtV sxKw gh ct1883 := sxMeB_ok (cts := []) (cuts := cu1883) (sp := []) 95 (by decide +kernel) hg (by decide) (by decide) (fun _ h => absurd h List.not_mem_nil)
/-- LotBeliefs.Sentence.readAtom -/
def ct1884 : sxCt := (47, 1, (1, [], [], [(0, .inl 1), (1, .inl 3)], [], [(1, (0, .ofNat 7), .inr (false, (0, .ofNat 6)))], []), [(1, 4), (1, 5), (1, 6), (1, 7), (1, 9), (1, 10)], [
  (3, [(1, .negSucc 9223372036854775807, .ofNat 9223372036854775807), (2, .ofNat 0, .ofNat 4)], [], [], [.inr (true, (1, .ofNat 0))], [(1, (0, .ofNat 3), .inr (false, (2, .ofNat 0))), (1, (0, .ofNat 7), .inr (false, (0, .ofNat 6)))], [])], [], 0, 0)
def cu1884 : List sxCu := []
set_option maxRecDepth 1000000 in
theorem cv1884 {gh : sxGh} (hg : sxGd sxKw gh) : sxCtV sxKw gh ct1884 := sxMeB_ok (cts := [ct1596]) (cuts := cu1884) (sp := []) 222 (by decide +kernel) hg (by decide) (by decide) (List.forall_mem_cons.mpr ⟨cv1596 hg, (fun _ h => absurd h List.not_mem_nil)⟩)
/-- LotBeliefs.Sentence.readPart -/
def ct1885 : sxCt := (43, 3, (1, [], [], [(0, .inl 1), (1, .inl 3)], [], [(1, (0, .ofNat 7), .inr (false, (0, .ofNat 6)))], []), [(1, 4), (1, 5), (1, 6), (1, 7), (1, 9), (1, 10)], [
  (3, [(1, .negSucc 9223372036854775807, .ofNat 9223372036854775807), (2, .ofNat 0, .ofNat 4)], [], [], [.inr (true, (1, .ofNat 0))], [(1, (0, .ofNat 3), .inr (false, (2, .ofNat 0))), (1, (0, .ofNat 7), .inr (false, (0, .ofNat 6)))], [])], [], 0, 0)
def cu1885 : List sxCu := []
set_option maxRecDepth 1000000 in
theorem cv1885 {gh : sxGh} (hg : sxGd sxKw gh) : sxCtV sxKw gh ct1885 := sxMeB_ok (cts := [ct1881, ct1882, ct1883, ct1884, ct1826, ct1828]) (cuts := cu1885) (sp := []) 118 (by decide +kernel) hg (by decide) (by decide) (List.forall_mem_cons.mpr ⟨cv1881 hg, (List.forall_mem_cons.mpr ⟨cv1882 hg, (List.forall_mem_cons.mpr ⟨cv1883 hg, (List.forall_mem_cons.mpr ⟨cv1884 hg, (List.forall_mem_cons.mpr ⟨cv1826 hg, (List.forall_mem_cons.mpr ⟨cv1828 hg, (fun _ h => absurd h List.not_mem_nil)⟩)⟩)⟩)⟩)⟩)⟩)
/-- LotBeliefs.Sentence.readNot -/
def ct1886 : sxCt := (44, 4, (1, [], [], [(0, .inl 1), (1, .inl 3)], [], [(1, (0, .ofNat 7), .inr (false, (0, .ofNat 5)))], []), [(1, 4), (1, 5), (1, 6), (1, 7), (1, 8), (1, 9), (1, 10)], [
  (3, [(1, .negSucc 9223372036854775807, .ofNat 9223372036854775807), (2, .ofNat 0, .ofNat 4)], [], [], [.inr (true, (1, .ofNat 0))], [(1, (0, .ofNat 3), .inr (false, (2, .ofNat 0))), (1, (0, .ofNat 7), .inr (false, (0, .ofNat 5)))], [])], [], 0, 0)
def cu1886 : List sxCu := []
set_option maxRecDepth 1000000 in
theorem cv1886 {gh : sxGh} (hg : sxGd sxKw gh) : sxCtV sxKw gh ct1886 := sxMeB_ok (cts := [ct1885, ct1596]) (cuts := cu1886) (sp := []) 99 (by decide +kernel) hg (by decide) (by decide) (List.forall_mem_cons.mpr ⟨cv1885 hg, (List.forall_mem_cons.mpr ⟨cv1596 hg, (fun _ h => absurd h List.not_mem_nil)⟩)⟩)
/-- LotBeliefs.Sentence.readIf -/
def ct1887 : sxCt := (45, 4, (1, [], [], [(0, .inl 1), (1, .inl 3)], [], [(1, (0, .ofNat 7), .inr (false, (0, .ofNat 5)))], []), [(1, 4), (1, 5), (1, 6), (1, 7), (1, 8), (1, 9), (1, 10)], [
  (3, [(1, .negSucc 9223372036854775807, .ofNat 9223372036854775807), (2, .ofNat 0, .ofNat 4)], [], [], [.inr (true, (1, .ofNat 0))], [(1, (0, .ofNat 3), .inr (false, (2, .ofNat 0))), (1, (0, .ofNat 7), .inr (false, (0, .ofNat 5)))], [])], [], 0, 0)
def cu1887 : List sxCu := []
set_option maxRecDepth 1000000 in
theorem cv1887 {gh : sxGh} (hg : sxGd sxKw gh) : sxCtV sxKw gh ct1887 := sxMeB_ok (cts := [ct1885, ct1596, ct1834]) (cuts := cu1887) (sp := []) 177 (by decide +kernel) hg (by decide) (by decide) (List.forall_mem_cons.mpr ⟨cv1885 hg, (List.forall_mem_cons.mpr ⟨cv1596 hg, (List.forall_mem_cons.mpr ⟨cv1834 hg, (fun _ h => absurd h List.not_mem_nil)⟩)⟩)⟩)
/-- LotBeliefs.Sentence.readEach -/
def ct1888 : sxCt := (42, 4, (1, [], [], [(0, .inl 1), (1, .inl 3)], [], [(1, (0, .ofNat 7), .inr (false, (0, .ofNat 6)))], []), [(1, 4), (1, 5), (1, 6), (1, 7), (1, 9), (1, 10)], [
  (3, [(1, .negSucc 9223372036854775807, .ofNat 9223372036854775807), (2, .ofNat 0, .ofNat 4)], [], [], [.inr (true, (1, .ofNat 0))], [(1, (0, .ofNat 3), .inr (false, (2, .ofNat 0))), (1, (0, .ofNat 7), .inr (false, (0, .ofNat 6)))], [])], [], 0, 0)
def cu1888 : List sxCu := [
  (9, (4, [(1, .negSucc 9223372036854775807, .ofNat 9223372036854775807), (2, .ofNat 0, .ofNat 600), (3, .ofNat 0, .ofNat 4)], [], [(0, .inl 1), (1, .inl 3), (2, .inr (true, (1, .ofNat 0))), (4, .inr (false, (2, .ofNat 0)))], [], [(1, (0, .ofNat 3), .inr (false, (3, .ofNat 0))), (1, (0, .ofNat 7), .inr (false, (0, .ofNat 6)))], []), ((0, 2, .ofNat 600), (0, 0, .ofNat 0), (0, 0, .ofNat 0)), 0, 0)]
set_option maxRecDepth 1000000 in
theorem cv1888 {gh : sxGh} (hg : sxGd sxKw gh) : sxCtV sxKw gh ct1888 := sxMeB_ok (cts := [ct1885, ct1596, ct1836]) (cuts := cu1888) (sp := []) 92 (by decide +kernel) hg (by decide) (by decide) (List.forall_mem_cons.mpr ⟨cv1885 hg, (List.forall_mem_cons.mpr ⟨cv1596 hg, (List.forall_mem_cons.mpr ⟨cv1836 hg, (fun _ h => absurd h List.not_mem_nil)⟩)⟩)⟩)
/-- LotBeliefs.Sentence.readEither -/
def ct1889 : sxCt := (41, 5, (1, [], [], [(0, .inl 1), (1, .inl 3)], [], [(1, (0, .ofNat 7), .inr (false, (0, .ofNat 6)))], []), [(1, 4), (1, 5), (1, 6), (1, 7), (1, 9), (1, 10)], [
  (3, [(1, .negSucc 9223372036854775807, .ofNat 9223372036854775807), (2, .ofNat 0, .ofNat 4)], [], [], [.inr (true, (1, .ofNat 0))], [(1, (0, .ofNat 3), .inr (false, (2, .ofNat 0))), (1, (0, .ofNat 7), .inr (false, (0, .ofNat 6)))], [])], [], 0, 0)
def cu1889 : List sxCu := [
  (9, (4, [(1, .negSucc 9223372036854775807, .ofNat 9223372036854775807), (2, .ofNat 0, .ofNat 600), (3, .ofNat 0, .ofNat 4)], [], [(0, .inl 1), (1, .inl 3), (2, .inr (true, (1, .ofNat 0))), (4, .inr (false, (2, .ofNat 0)))], [], [(1, (0, .ofNat 3), .inr (false, (3, .ofNat 0))), (1, (0, .ofNat 7), .inr (false, (0, .ofNat 6)))], []), ((0, 2, .ofNat 600), (0, 0, .ofNat 0), (0, 0, .ofNat 0)), 0, 0)]
set_option maxRecDepth 1000000 in
theorem cv1889 {gh : sxGh} (hg : sxGd sxKw gh) : sxCtV sxKw gh ct1889 := sxMeB_ok (cts := [ct1888, ct1596, ct1838]) (cuts := cu1889) (sp := []) 92 (by decide +kernel) hg (by decide) (by decide) (List.forall_mem_cons.mpr ⟨cv1888 hg, (List.forall_mem_cons.mpr ⟨cv1596 hg, (List.forall_mem_cons.mpr ⟨cv1838 hg, (fun _ h => absurd h List.not_mem_nil)⟩)⟩)⟩)
/-- LotBeliefs.Sentence.readBrackets -/
def ct1890 : sxCt := (46, 6, (1, [], [], [(0, .inl 1), (1, .inl 3)], [], [(1, (0, .ofNat 7), .inr (false, (0, .ofNat 5)))], []), [(1, 4), (1, 5), (1, 6), (1, 7), (1, 8), (1, 9), (1, 10)], [
  (3, [(1, .negSucc 9223372036854775807, .ofNat 9223372036854775807), (2, .ofNat 0, .ofNat 4)], [], [], [.inr (true, (1, .ofNat 0))], [(1, (0, .ofNat 3), .inr (false, (2, .ofNat 0))), (1, (0, .ofNat 7), .inr (false, (0, .ofNat 5)))], [])], [], 0, 0)
def cu1890 : List sxCu := []
set_option maxRecDepth 1000000 in
theorem cv1890 {gh : sxGh} (hg : sxGd sxKw gh) : sxCtV sxKw gh ct1890 := sxMeB_ok (cts := [ct1889, ct1596]) (cuts := cu1890) (sp := []) 196 (by decide +kernel) hg (by decide) (by decide) (List.forall_mem_cons.mpr ⟨cv1889 hg, (List.forall_mem_cons.mpr ⟨cv1596 hg, (fun _ h => absurd h List.not_mem_nil)⟩)⟩)
/-- LotBeliefs.Sentence.readAtom -/
def ct1891 : sxCt := (47, 1, (1, [], [], [(0, .inl 1), (1, .inl 3)], [], [(1, (0, .ofNat 7), .inr (false, (0, .ofNat 5)))], []), [(1, 4), (1, 5), (1, 6), (1, 7), (1, 9), (1, 10)], [
  (3, [(1, .negSucc 9223372036854775807, .ofNat 9223372036854775807), (2, .ofNat 0, .ofNat 4)], [], [], [.inr (true, (1, .ofNat 0))], [(1, (0, .ofNat 3), .inr (false, (2, .ofNat 0))), (1, (0, .ofNat 7), .inr (false, (0, .ofNat 5)))], [])], [], 0, 0)
def cu1891 : List sxCu := []
set_option maxRecDepth 1000000 in
theorem cv1891 {gh : sxGh} (hg : sxGd sxKw gh) : sxCtV sxKw gh ct1891 := sxMeB_ok (cts := [ct1596]) (cuts := cu1891) (sp := []) 222 (by decide +kernel) hg (by decide) (by decide) (List.forall_mem_cons.mpr ⟨cv1596 hg, (fun _ h => absurd h List.not_mem_nil)⟩)
/-- LotBeliefs.Sentence.readPart -/
def ct1892 : sxCt := (43, 7, (1, [], [], [(0, .inl 1), (1, .inl 3)], [], [(1, (0, .ofNat 7), .inr (false, (0, .ofNat 5)))], []), [(1, 4), (1, 5), (1, 6), (1, 7), (1, 8), (1, 9), (1, 10)], [
  (3, [(1, .negSucc 9223372036854775807, .ofNat 9223372036854775807), (2, .ofNat 0, .ofNat 4)], [], [], [.inr (true, (1, .ofNat 0))], [(1, (0, .ofNat 3), .inr (false, (2, .ofNat 0))), (1, (0, .ofNat 7), .inr (false, (0, .ofNat 5)))], [])], [], 0, 0)
def cu1892 : List sxCu := []
set_option maxRecDepth 1000000 in
theorem cv1892 {gh : sxGh} (hg : sxGd sxKw gh) : sxCtV sxKw gh ct1892 := sxMeB_ok (cts := [ct1886, ct1887, ct1890, ct1891, ct1826, ct1828]) (cuts := cu1892) (sp := []) 118 (by decide +kernel) hg (by decide) (by decide) (List.forall_mem_cons.mpr ⟨cv1886 hg, (List.forall_mem_cons.mpr ⟨cv1887 hg, (List.forall_mem_cons.mpr ⟨cv1890 hg, (List.forall_mem_cons.mpr ⟨cv1891 hg, (List.forall_mem_cons.mpr ⟨cv1826 hg, (List.forall_mem_cons.mpr ⟨cv1828 hg, (fun _ h => absurd h List.not_mem_nil)⟩)⟩)⟩)⟩)⟩)⟩)
/-- LotBeliefs.Sentence.readNot -/
def ct1893 : sxCt := (44, 8, (1, [], [], [(0, .inl 1), (1, .inl 3)], [], [(1, (0, .ofNat 7), .inr (false, (0, .ofNat 4)))], []), [(1, 4), (1, 5), (1, 6), (1, 7), (1, 8), (1, 9), (1, 10)], [
  (3, [(1, .negSucc 9223372036854775807, .ofNat 9223372036854775807), (2, .ofNat 0, .ofNat 4)], [], [], [.inr (true, (1, .ofNat 0))], [(1, (0, .ofNat 3), .inr (false, (2, .ofNat 0))), (1, (0, .ofNat 7), .inr (false, (0, .ofNat 4)))], [])], [], 0, 0)
def cu1893 : List sxCu := []
set_option maxRecDepth 1000000 in
theorem cv1893 {gh : sxGh} (hg : sxGd sxKw gh) : sxCtV sxKw gh ct1893 := sxMeB_ok (cts := [ct1892, ct1596]) (cuts := cu1893) (sp := []) 99 (by decide +kernel) hg (by decide) (by decide) (List.forall_mem_cons.mpr ⟨cv1892 hg, (List.forall_mem_cons.mpr ⟨cv1596 hg, (fun _ h => absurd h List.not_mem_nil)⟩)⟩)
/-- LotBeliefs.Sentence.readIf -/
def ct1894 : sxCt := (45, 8, (1, [], [], [(0, .inl 1), (1, .inl 3)], [], [(1, (0, .ofNat 7), .inr (false, (0, .ofNat 4)))], []), [(1, 4), (1, 5), (1, 6), (1, 7), (1, 8), (1, 9), (1, 10)], [
  (3, [(1, .negSucc 9223372036854775807, .ofNat 9223372036854775807), (2, .ofNat 0, .ofNat 4)], [], [], [.inr (true, (1, .ofNat 0))], [(1, (0, .ofNat 3), .inr (false, (2, .ofNat 0))), (1, (0, .ofNat 7), .inr (false, (0, .ofNat 4)))], [])], [], 0, 0)
def cu1894 : List sxCu := []
set_option maxRecDepth 1000000 in
theorem cv1894 {gh : sxGh} (hg : sxGd sxKw gh) : sxCtV sxKw gh ct1894 := sxMeB_ok (cts := [ct1892, ct1596, ct1834]) (cuts := cu1894) (sp := []) 177 (by decide +kernel) hg (by decide) (by decide) (List.forall_mem_cons.mpr ⟨cv1892 hg, (List.forall_mem_cons.mpr ⟨cv1596 hg, (List.forall_mem_cons.mpr ⟨cv1834 hg, (fun _ h => absurd h List.not_mem_nil)⟩)⟩)⟩)
/-- LotBeliefs.Sentence.readEach -/
def ct1895 : sxCt := (42, 8, (1, [], [], [(0, .inl 1), (1, .inl 3)], [], [(1, (0, .ofNat 7), .inr (false, (0, .ofNat 5)))], []), [(1, 4), (1, 5), (1, 6), (1, 7), (1, 8), (1, 9), (1, 10)], [
  (3, [(1, .negSucc 9223372036854775807, .ofNat 9223372036854775807), (2, .ofNat 0, .ofNat 4)], [], [], [.inr (true, (1, .ofNat 0))], [(1, (0, .ofNat 3), .inr (false, (2, .ofNat 0))), (1, (0, .ofNat 7), .inr (false, (0, .ofNat 5)))], [])], [], 0, 0)
def cu1895 : List sxCu := [
  (9, (4, [(1, .negSucc 9223372036854775807, .ofNat 9223372036854775807), (2, .ofNat 0, .ofNat 600), (3, .ofNat 0, .ofNat 4)], [], [(0, .inl 1), (1, .inl 3), (2, .inr (true, (1, .ofNat 0))), (4, .inr (false, (2, .ofNat 0)))], [], [(1, (0, .ofNat 3), .inr (false, (3, .ofNat 0))), (1, (0, .ofNat 7), .inr (false, (0, .ofNat 5)))], []), ((0, 2, .ofNat 600), (0, 0, .ofNat 0), (0, 0, .ofNat 0)), 0, 0)]
set_option maxRecDepth 1000000 in
theorem cv1895 {gh : sxGh} (hg : sxGd sxKw gh) : sxCtV sxKw gh ct1895 := sxMeB_ok (cts := [ct1892, ct1596, ct1836]) (cuts := cu1895) (sp := []) 92 (by decide +kernel) hg (by decide) (by decide) (List.forall_mem_cons.mpr ⟨cv1892 hg, (List.forall_mem_cons.mpr ⟨cv1596 hg, (List.forall_mem_cons.mpr ⟨cv1836 hg, (fun _ h => absurd h List.not_mem_nil)⟩)⟩)⟩)
/-- LotBeliefs.Sentence.readEither -/
def ct1896 : sxCt := (41, 9, (1, [], [], [(0, .inl 1), (1, .inl 3)], [], [(1, (0, .ofNat 7), .inr (false, (0, .ofNat 5)))], []), [(1, 4), (1, 5), (1, 6), (1, 7), (1, 8), (1, 9), (1, 10)], [
  (3, [(1, .negSucc 9223372036854775807, .ofNat 9223372036854775807), (2, .ofNat 0, .ofNat 4)], [], [], [.inr (true, (1, .ofNat 0))], [(1, (0, .ofNat 3), .inr (false, (2, .ofNat 0))), (1, (0, .ofNat 7), .inr (false, (0, .ofNat 5)))], [])], [], 0, 0)
def cu1896 : List sxCu := [
  (9, (4, [(1, .negSucc 9223372036854775807, .ofNat 9223372036854775807), (2, .ofNat 0, .ofNat 600), (3, .ofNat 0, .ofNat 4)], [], [(0, .inl 1), (1, .inl 3), (2, .inr (true, (1, .ofNat 0))), (4, .inr (false, (2, .ofNat 0)))], [], [(1, (0, .ofNat 3), .inr (false, (3, .ofNat 0))), (1, (0, .ofNat 7), .inr (false, (0, .ofNat 5)))], []), ((0, 2, .ofNat 600), (0, 0, .ofNat 0), (0, 0, .ofNat 0)), 0, 0)]
set_option maxRecDepth 1000000 in
theorem cv1896 {gh : sxGh} (hg : sxGd sxKw gh) : sxCtV sxKw gh ct1896 := sxMeB_ok (cts := [ct1895, ct1596, ct1838]) (cuts := cu1896) (sp := []) 92 (by decide +kernel) hg (by decide) (by decide) (List.forall_mem_cons.mpr ⟨cv1895 hg, (List.forall_mem_cons.mpr ⟨cv1596 hg, (List.forall_mem_cons.mpr ⟨cv1838 hg, (fun _ h => absurd h List.not_mem_nil)⟩)⟩)⟩)
/-- LotBeliefs.Sentence.readBrackets -/
def ct1897 : sxCt := (46, 10, (1, [], [], [(0, .inl 1), (1, .inl 3)], [], [(1, (0, .ofNat 7), .inr (false, (0, .ofNat 4)))], []), [(1, 4), (1, 5), (1, 6), (1, 7), (1, 8), (1, 9), (1, 10)], [
  (3, [(1, .negSucc 9223372036854775807, .ofNat 9223372036854775807), (2, .ofNat 0, .ofNat 4)], [], [], [.inr (true, (1, .ofNat 0))], [(1, (0, .ofNat 3), .inr (false, (2, .ofNat 0))), (1, (0, .ofNat 7), .inr (false, (0, .ofNat 4)))], [])], [], 0, 0)
def cu1897 : List sxCu := []
set_option maxRecDepth 1000000 in
theorem cv1897 {gh : sxGh} (hg : sxGd sxKw gh) : sxCtV sxKw gh ct1897 := sxMeB_ok (cts := [ct1896, ct1596]) (cuts := cu1897) (sp := []) 196 (by decide +kernel) hg (by decide) (by decide) (List.forall_mem_cons.mpr ⟨cv1896 hg, (List.forall_mem_cons.mpr ⟨cv1596 hg, (fun _ h => absurd h List.not_mem_nil)⟩)⟩)
/-- LotBeliefs.Sentence.readAtom -/
def ct1898 : sxCt := (47, 1, (1, [], [], [(0, .inl 1), (1, .inl 3)], [], [(1, (0, .ofNat 7), .inr (false, (0, .ofNat 4)))], []), [(1, 4), (1, 5), (1, 6), (1, 7), (1, 9), (1, 10)], [
  (3, [(1, .negSucc 9223372036854775807, .ofNat 9223372036854775807), (2, .ofNat 0, .ofNat 4)], [], [], [.inr (true, (1, .ofNat 0))], [(1, (0, .ofNat 3), .inr (false, (2, .ofNat 0))), (1, (0, .ofNat 7), .inr (false, (0, .ofNat 4)))], [])], [], 0, 0)
def cu1898 : List sxCu := []
set_option maxRecDepth 1000000 in
theorem cv1898 {gh : sxGh} (hg : sxGd sxKw gh) : sxCtV sxKw gh ct1898 := sxMeB_ok (cts := [ct1596]) (cuts := cu1898) (sp := []) 222 (by decide +kernel) hg (by decide) (by decide) (List.forall_mem_cons.mpr ⟨cv1596 hg, (fun _ h => absurd h List.not_mem_nil)⟩)
/-- LotBeliefs.Sentence.readPart -/
def ct1899 : sxCt := (43, 11, (1, [], [], [(0, .inl 1), (1, .inl 3)], [], [(1, (0, .ofNat 7), .inr (false, (0, .ofNat 4)))], []), [(1, 4), (1, 5), (1, 6), (1, 7), (1, 8), (1, 9), (1, 10)], [
  (3, [(1, .negSucc 9223372036854775807, .ofNat 9223372036854775807), (2, .ofNat 0, .ofNat 4)], [], [], [.inr (true, (1, .ofNat 0))], [(1, (0, .ofNat 3), .inr (false, (2, .ofNat 0))), (1, (0, .ofNat 7), .inr (false, (0, .ofNat 4)))], [])], [], 0, 0)
def cu1899 : List sxCu := []
set_option maxRecDepth 1000000 in
theorem cv1899 {gh : sxGh} (hg : sxGd sxKw gh) : sxCtV sxKw gh ct1899 := sxMeB_ok (cts := [ct1893, ct1894, ct1897, ct1898, ct1826, ct1828]) (cuts := cu1899) (sp := []) 118 (by decide +kernel) hg (by decide) (by decide) (List.forall_mem_cons.mpr ⟨cv1893 hg, (List.forall_mem_cons.mpr ⟨cv1894 hg, (List.forall_mem_cons.mpr ⟨cv1897 hg, (List.forall_mem_cons.mpr ⟨cv1898 hg, (List.forall_mem_cons.mpr ⟨cv1826 hg, (List.forall_mem_cons.mpr ⟨cv1828 hg, (fun _ h => absurd h List.not_mem_nil)⟩)⟩)⟩)⟩)⟩)⟩)
/-- LotBeliefs.Sentence.readNot -/
def ct1900 : sxCt := (44, 12, (1, [], [], [(0, .inl 1), (1, .inl 3)], [], [(1, (0, .ofNat 7), .inr (false, (0, .ofNat 3)))], []), [(1, 4), (1, 5), (1, 6), (1, 7), (1, 8), (1, 9), (1, 10)], [
  (3, [(1, .negSucc 9223372036854775807, .ofNat 9223372036854775807), (2, .ofNat 0, .ofNat 4)], [], [], [.inr (true, (1, .ofNat 0))], [(1, (0, .ofNat 3), .inr (false, (2, .ofNat 0))), (1, (0, .ofNat 7), .inr (false, (0, .ofNat 3)))], [])], [], 0, 0)
def cu1900 : List sxCu := []
set_option maxRecDepth 1000000 in
theorem cv1900 {gh : sxGh} (hg : sxGd sxKw gh) : sxCtV sxKw gh ct1900 := sxMeB_ok (cts := [ct1899, ct1596]) (cuts := cu1900) (sp := []) 99 (by decide +kernel) hg (by decide) (by decide) (List.forall_mem_cons.mpr ⟨cv1899 hg, (List.forall_mem_cons.mpr ⟨cv1596 hg, (fun _ h => absurd h List.not_mem_nil)⟩)⟩)
/-- LotBeliefs.Sentence.readIf -/
def ct1901 : sxCt := (45, 12, (1, [], [], [(0, .inl 1), (1, .inl 3)], [], [(1, (0, .ofNat 7), .inr (false, (0, .ofNat 3)))], []), [(1, 4), (1, 5), (1, 6), (1, 7), (1, 8), (1, 9), (1, 10)], [
  (3, [(1, .negSucc 9223372036854775807, .ofNat 9223372036854775807), (2, .ofNat 0, .ofNat 4)], [], [], [.inr (true, (1, .ofNat 0))], [(1, (0, .ofNat 3), .inr (false, (2, .ofNat 0))), (1, (0, .ofNat 7), .inr (false, (0, .ofNat 3)))], [])], [], 0, 0)
def cu1901 : List sxCu := []
set_option maxRecDepth 1000000 in
theorem cv1901 {gh : sxGh} (hg : sxGd sxKw gh) : sxCtV sxKw gh ct1901 := sxMeB_ok (cts := [ct1899, ct1596, ct1834]) (cuts := cu1901) (sp := []) 177 (by decide +kernel) hg (by decide) (by decide) (List.forall_mem_cons.mpr ⟨cv1899 hg, (List.forall_mem_cons.mpr ⟨cv1596 hg, (List.forall_mem_cons.mpr ⟨cv1834 hg, (fun _ h => absurd h List.not_mem_nil)⟩)⟩)⟩)
/-- LotBeliefs.Sentence.readEach -/
def ct1902 : sxCt := (42, 12, (1, [], [], [(0, .inl 1), (1, .inl 3)], [], [(1, (0, .ofNat 7), .inr (false, (0, .ofNat 4)))], []), [(1, 4), (1, 5), (1, 6), (1, 7), (1, 8), (1, 9), (1, 10)], [
  (3, [(1, .negSucc 9223372036854775807, .ofNat 9223372036854775807), (2, .ofNat 0, .ofNat 4)], [], [], [.inr (true, (1, .ofNat 0))], [(1, (0, .ofNat 3), .inr (false, (2, .ofNat 0))), (1, (0, .ofNat 7), .inr (false, (0, .ofNat 4)))], [])], [], 0, 0)
def cu1902 : List sxCu := [
  (9, (4, [(1, .negSucc 9223372036854775807, .ofNat 9223372036854775807), (2, .ofNat 0, .ofNat 600), (3, .ofNat 0, .ofNat 4)], [], [(0, .inl 1), (1, .inl 3), (2, .inr (true, (1, .ofNat 0))), (4, .inr (false, (2, .ofNat 0)))], [], [(1, (0, .ofNat 3), .inr (false, (3, .ofNat 0))), (1, (0, .ofNat 7), .inr (false, (0, .ofNat 4)))], []), ((0, 2, .ofNat 600), (0, 0, .ofNat 0), (0, 0, .ofNat 0)), 0, 0)]
set_option maxRecDepth 1000000 in
theorem cv1902 {gh : sxGh} (hg : sxGd sxKw gh) : sxCtV sxKw gh ct1902 := sxMeB_ok (cts := [ct1899, ct1596, ct1836]) (cuts := cu1902) (sp := []) 92 (by decide +kernel) hg (by decide) (by decide) (List.forall_mem_cons.mpr ⟨cv1899 hg, (List.forall_mem_cons.mpr ⟨cv1596 hg, (List.forall_mem_cons.mpr ⟨cv1836 hg, (fun _ h => absurd h List.not_mem_nil)⟩)⟩)⟩)
/-- LotBeliefs.Sentence.readEither -/
def ct1903 : sxCt := (41, 13, (1, [], [], [(0, .inl 1), (1, .inl 3)], [], [(1, (0, .ofNat 7), .inr (false, (0, .ofNat 4)))], []), [(1, 4), (1, 5), (1, 6), (1, 7), (1, 8), (1, 9), (1, 10)], [
  (3, [(1, .negSucc 9223372036854775807, .ofNat 9223372036854775807), (2, .ofNat 0, .ofNat 4)], [], [], [.inr (true, (1, .ofNat 0))], [(1, (0, .ofNat 3), .inr (false, (2, .ofNat 0))), (1, (0, .ofNat 7), .inr (false, (0, .ofNat 4)))], [])], [], 0, 0)
def cu1903 : List sxCu := [
  (9, (4, [(1, .negSucc 9223372036854775807, .ofNat 9223372036854775807), (2, .ofNat 0, .ofNat 600), (3, .ofNat 0, .ofNat 4)], [], [(0, .inl 1), (1, .inl 3), (2, .inr (true, (1, .ofNat 0))), (4, .inr (false, (2, .ofNat 0)))], [], [(1, (0, .ofNat 3), .inr (false, (3, .ofNat 0))), (1, (0, .ofNat 7), .inr (false, (0, .ofNat 4)))], []), ((0, 2, .ofNat 600), (0, 0, .ofNat 0), (0, 0, .ofNat 0)), 0, 0)]
set_option maxRecDepth 1000000 in
theorem cv1903 {gh : sxGh} (hg : sxGd sxKw gh) : sxCtV sxKw gh ct1903 := sxMeB_ok (cts := [ct1902, ct1596, ct1838]) (cuts := cu1903) (sp := []) 92 (by decide +kernel) hg (by decide) (by decide) (List.forall_mem_cons.mpr ⟨cv1902 hg, (List.forall_mem_cons.mpr ⟨cv1596 hg, (List.forall_mem_cons.mpr ⟨cv1838 hg, (fun _ h => absurd h List.not_mem_nil)⟩)⟩)⟩)
/-- LotBeliefs.Sentence.readBrackets -/
def ct1904 : sxCt := (46, 14, (1, [], [], [(0, .inl 1), (1, .inl 3)], [], [(1, (0, .ofNat 7), .inr (false, (0, .ofNat 3)))], []), [(1, 4), (1, 5), (1, 6), (1, 7), (1, 8), (1, 9), (1, 10)], [
  (3, [(1, .negSucc 9223372036854775807, .ofNat 9223372036854775807), (2, .ofNat 0, .ofNat 4)], [], [], [.inr (true, (1, .ofNat 0))], [(1, (0, .ofNat 3), .inr (false, (2, .ofNat 0))), (1, (0, .ofNat 7), .inr (false, (0, .ofNat 3)))], [])], [], 0, 0)
def cu1904 : List sxCu := []
set_option maxRecDepth 1000000 in
theorem cv1904 {gh : sxGh} (hg : sxGd sxKw gh) : sxCtV sxKw gh ct1904 := sxMeB_ok (cts := [ct1903, ct1596]) (cuts := cu1904) (sp := []) 196 (by decide +kernel) hg (by decide) (by decide) (List.forall_mem_cons.mpr ⟨cv1903 hg, (List.forall_mem_cons.mpr ⟨cv1596 hg, (fun _ h => absurd h List.not_mem_nil)⟩)⟩)
/-- LotBeliefs.Sentence.readAtom -/
def ct1905 : sxCt := (47, 1, (1, [], [], [(0, .inl 1), (1, .inl 3)], [], [(1, (0, .ofNat 7), .inr (false, (0, .ofNat 3)))], []), [(1, 4), (1, 5), (1, 6), (1, 7), (1, 9), (1, 10)], [
  (3, [(1, .negSucc 9223372036854775807, .ofNat 9223372036854775807), (2, .ofNat 0, .ofNat 4)], [], [], [.inr (true, (1, .ofNat 0))], [(1, (0, .ofNat 3), .inr (false, (2, .ofNat 0))), (1, (0, .ofNat 7), .inr (false, (0, .ofNat 3)))], [])], [], 0, 0)
def cu1905 : List sxCu := []
set_option maxRecDepth 1000000 in
theorem cv1905 {gh : sxGh} (hg : sxGd sxKw gh) : sxCtV sxKw gh ct1905 := sxMeB_ok (cts := [ct1596]) (cuts := cu1905) (sp := []) 222 (by decide +kernel) hg (by decide) (by decide) (List.forall_mem_cons.mpr ⟨cv1596 hg, (fun _ h => absurd h List.not_mem_nil)⟩)
/-- LotBeliefs.Sentence.readPart -/
def ct1906 : sxCt := (43, 15, (1, [], [], [(0, .inl 1), (1, .inl 3)], [], [(1, (0, .ofNat 7), .inr (false, (0, .ofNat 3)))], []), [(1, 4), (1, 5), (1, 6), (1, 7), (1, 8), (1, 9), (1, 10)], [
  (3, [(1, .negSucc 9223372036854775807, .ofNat 9223372036854775807), (2, .ofNat 0, .ofNat 4)], [], [], [.inr (true, (1, .ofNat 0))], [(1, (0, .ofNat 3), .inr (false, (2, .ofNat 0))), (1, (0, .ofNat 7), .inr (false, (0, .ofNat 3)))], [])], [], 0, 0)
def cu1906 : List sxCu := []
set_option maxRecDepth 1000000 in
theorem cv1906 {gh : sxGh} (hg : sxGd sxKw gh) : sxCtV sxKw gh ct1906 := sxMeB_ok (cts := [ct1900, ct1901, ct1904, ct1905, ct1826, ct1828]) (cuts := cu1906) (sp := []) 118 (by decide +kernel) hg (by decide) (by decide) (List.forall_mem_cons.mpr ⟨cv1900 hg, (List.forall_mem_cons.mpr ⟨cv1901 hg, (List.forall_mem_cons.mpr ⟨cv1904 hg, (List.forall_mem_cons.mpr ⟨cv1905 hg, (List.forall_mem_cons.mpr ⟨cv1826 hg, (List.forall_mem_cons.mpr ⟨cv1828 hg, (fun _ h => absurd h List.not_mem_nil)⟩)⟩)⟩)⟩)⟩)⟩)
/-- LotBeliefs.Sentence.readNot -/
def ct1907 : sxCt := (44, 16, (1, [], [], [(0, .inl 1), (1, .inl 3)], [], [(1, (0, .ofNat 7), .inr (false, (0, .ofNat 2)))], []), [(1, 4), (1, 5), (1, 6), (1, 7), (1, 8), (1, 9), (1, 10)], [
  (3, [(1, .negSucc 9223372036854775807, .ofNat 9223372036854775807), (2, .ofNat 0, .ofNat 4)], [], [], [.inr (true, (1, .ofNat 0))], [(1, (0, .ofNat 3), .inr (false, (2, .ofNat 0))), (1, (0, .ofNat 7), .inr (false, (0, .ofNat 2)))], [])], [], 0, 0)
def cu1907 : List sxCu := []
set_option maxRecDepth 1000000 in
theorem cv1907 {gh : sxGh} (hg : sxGd sxKw gh) : sxCtV sxKw gh ct1907 := sxMeB_ok (cts := [ct1906, ct1596]) (cuts := cu1907) (sp := []) 99 (by decide +kernel) hg (by decide) (by decide) (List.forall_mem_cons.mpr ⟨cv1906 hg, (List.forall_mem_cons.mpr ⟨cv1596 hg, (fun _ h => absurd h List.not_mem_nil)⟩)⟩)
/-- LotBeliefs.Sentence.readIf -/
def ct1908 : sxCt := (45, 16, (1, [], [], [(0, .inl 1), (1, .inl 3)], [], [(1, (0, .ofNat 7), .inr (false, (0, .ofNat 2)))], []), [(1, 4), (1, 5), (1, 6), (1, 7), (1, 8), (1, 9), (1, 10)], [
  (3, [(1, .negSucc 9223372036854775807, .ofNat 9223372036854775807), (2, .ofNat 0, .ofNat 4)], [], [], [.inr (true, (1, .ofNat 0))], [(1, (0, .ofNat 3), .inr (false, (2, .ofNat 0))), (1, (0, .ofNat 7), .inr (false, (0, .ofNat 2)))], [])], [], 0, 0)
def cu1908 : List sxCu := []
set_option maxRecDepth 1000000 in
theorem cv1908 {gh : sxGh} (hg : sxGd sxKw gh) : sxCtV sxKw gh ct1908 := sxMeB_ok (cts := [ct1906, ct1596, ct1834]) (cuts := cu1908) (sp := []) 177 (by decide +kernel) hg (by decide) (by decide) (List.forall_mem_cons.mpr ⟨cv1906 hg, (List.forall_mem_cons.mpr ⟨cv1596 hg, (List.forall_mem_cons.mpr ⟨cv1834 hg, (fun _ h => absurd h List.not_mem_nil)⟩)⟩)⟩)
/-- LotBeliefs.Sentence.readEach -/
def ct1909 : sxCt := (42, 16, (1, [], [], [(0, .inl 1), (1, .inl 3)], [], [(1, (0, .ofNat 7), .inr (false, (0, .ofNat 3)))], []), [(1, 4), (1, 5), (1, 6), (1, 7), (1, 8), (1, 9), (1, 10)], [
  (3, [(1, .negSucc 9223372036854775807, .ofNat 9223372036854775807), (2, .ofNat 0, .ofNat 4)], [], [], [.inr (true, (1, .ofNat 0))], [(1, (0, .ofNat 3), .inr (false, (2, .ofNat 0))), (1, (0, .ofNat 7), .inr (false, (0, .ofNat 3)))], [])], [], 0, 0)
def cu1909 : List sxCu := [
  (9, (4, [(1, .negSucc 9223372036854775807, .ofNat 9223372036854775807), (2, .ofNat 0, .ofNat 600), (3, .ofNat 0, .ofNat 4)], [], [(0, .inl 1), (1, .inl 3), (2, .inr (true, (1, .ofNat 0))), (4, .inr (false, (2, .ofNat 0)))], [], [(1, (0, .ofNat 3), .inr (false, (3, .ofNat 0))), (1, (0, .ofNat 7), .inr (false, (0, .ofNat 3)))], []), ((0, 2, .ofNat 600), (0, 0, .ofNat 0), (0, 0, .ofNat 0)), 0, 0)]
set_option maxRecDepth 1000000 in
theorem cv1909 {gh : sxGh} (hg : sxGd sxKw gh) : sxCtV sxKw gh ct1909 := sxMeB_ok (cts := [ct1906, ct1596, ct1836]) (cuts := cu1909) (sp := []) 92 (by decide +kernel) hg (by decide) (by decide) (List.forall_mem_cons.mpr ⟨cv1906 hg, (List.forall_mem_cons.mpr ⟨cv1596 hg, (List.forall_mem_cons.mpr ⟨cv1836 hg, (fun _ h => absurd h List.not_mem_nil)⟩)⟩)⟩)
/-- LotBeliefs.Sentence.readEither -/
def ct1910 : sxCt := (41, 17, (1, [], [], [(0, .inl 1), (1, .inl 3)], [], [(1, (0, .ofNat 7), .inr (false, (0, .ofNat 3)))], []), [(1, 4), (1, 5), (1, 6), (1, 7), (1, 8), (1, 9), (1, 10)], [
  (3, [(1, .negSucc 9223372036854775807, .ofNat 9223372036854775807), (2, .ofNat 0, .ofNat 4)], [], [], [.inr (true, (1, .ofNat 0))], [(1, (0, .ofNat 3), .inr (false, (2, .ofNat 0))), (1, (0, .ofNat 7), .inr (false, (0, .ofNat 3)))], [])], [], 0, 0)
def cu1910 : List sxCu := [
  (9, (4, [(1, .negSucc 9223372036854775807, .ofNat 9223372036854775807), (2, .ofNat 0, .ofNat 600), (3, .ofNat 0, .ofNat 4)], [], [(0, .inl 1), (1, .inl 3), (2, .inr (true, (1, .ofNat 0))), (4, .inr (false, (2, .ofNat 0)))], [], [(1, (0, .ofNat 3), .inr (false, (3, .ofNat 0))), (1, (0, .ofNat 7), .inr (false, (0, .ofNat 3)))], []), ((0, 2, .ofNat 600), (0, 0, .ofNat 0), (0, 0, .ofNat 0)), 0, 0)]
set_option maxRecDepth 1000000 in
theorem cv1910 {gh : sxGh} (hg : sxGd sxKw gh) : sxCtV sxKw gh ct1910 := sxMeB_ok (cts := [ct1909, ct1596, ct1838]) (cuts := cu1910) (sp := []) 92 (by decide +kernel) hg (by decide) (by decide) (List.forall_mem_cons.mpr ⟨cv1909 hg, (List.forall_mem_cons.mpr ⟨cv1596 hg, (List.forall_mem_cons.mpr ⟨cv1838 hg, (fun _ h => absurd h List.not_mem_nil)⟩)⟩)⟩)
/-- LotBeliefs.Sentence.readBrackets -/
def ct1911 : sxCt := (46, 18, (1, [], [], [(0, .inl 1), (1, .inl 3)], [], [(1, (0, .ofNat 7), .inr (false, (0, .ofNat 2)))], []), [(1, 4), (1, 5), (1, 6), (1, 7), (1, 8), (1, 9), (1, 10)], [
  (3, [(1, .negSucc 9223372036854775807, .ofNat 9223372036854775807), (2, .ofNat 0, .ofNat 4)], [], [], [.inr (true, (1, .ofNat 0))], [(1, (0, .ofNat 3), .inr (false, (2, .ofNat 0))), (1, (0, .ofNat 7), .inr (false, (0, .ofNat 2)))], [])], [], 0, 0)
def cu1911 : List sxCu := []
set_option maxRecDepth 1000000 in
theorem cv1911 {gh : sxGh} (hg : sxGd sxKw gh) : sxCtV sxKw gh ct1911 := sxMeB_ok (cts := [ct1910, ct1596]) (cuts := cu1911) (sp := []) 196 (by decide +kernel) hg (by decide) (by decide) (List.forall_mem_cons.mpr ⟨cv1910 hg, (List.forall_mem_cons.mpr ⟨cv1596 hg, (fun _ h => absurd h List.not_mem_nil)⟩)⟩)
/-- LotBeliefs.Sentence.readAtom -/
def ct1912 : sxCt := (47, 1, (1, [], [], [(0, .inl 1), (1, .inl 3)], [], [(1, (0, .ofNat 7), .inr (false, (0, .ofNat 2)))], []), [(1, 4), (1, 5), (1, 6), (1, 7), (1, 9), (1, 10)], [
  (3, [(1, .negSucc 9223372036854775807, .ofNat 9223372036854775807), (2, .ofNat 0, .ofNat 4)], [], [], [.inr (true, (1, .ofNat 0))], [(1, (0, .ofNat 3), .inr (false, (2, .ofNat 0))), (1, (0, .ofNat 7), .inr (false, (0, .ofNat 2)))], [])], [], 0, 0)
def cu1912 : List sxCu := []
set_option maxRecDepth 1000000 in
theorem cv1912 {gh : sxGh} (hg : sxGd sxKw gh) : sxCtV sxKw gh ct1912 := sxMeB_ok (cts := [ct1596]) (cuts := cu1912) (sp := []) 222 (by decide +kernel) hg (by decide) (by decide) (List.forall_mem_cons.mpr ⟨cv1596 hg, (fun _ h => absurd h List.not_mem_nil)⟩)
/-- LotBeliefs.Sentence.readPart -/
def ct1913 : sxCt := (43, 19, (1, [], [], [(0, .inl 1), (1, .inl 3)], [], [(1, (0, .ofNat 7), .inr (false, (0, .ofNat 2)))], []), [(1, 4), (1, 5), (1, 6), (1, 7), (1, 8), (1, 9), (1, 10)], [
  (3, [(1, .negSucc 9223372036854775807, .ofNat 9223372036854775807), (2, .ofNat 0, .ofNat 4)], [], [], [.inr (true, (1, .ofNat 0))], [(1, (0, .ofNat 3), .inr (false, (2, .ofNat 0))), (1, (0, .ofNat 7), .inr (false, (0, .ofNat 2)))], [])], [], 0, 0)
def cu1913 : List sxCu := []
set_option maxRecDepth 1000000 in
theorem cv1913 {gh : sxGh} (hg : sxGd sxKw gh) : sxCtV sxKw gh ct1913 := sxMeB_ok (cts := [ct1907, ct1908, ct1911, ct1912, ct1826, ct1828]) (cuts := cu1913) (sp := []) 118 (by decide +kernel) hg (by decide) (by decide) (List.forall_mem_cons.mpr ⟨cv1907 hg, (List.forall_mem_cons.mpr ⟨cv1908 hg, (List.forall_mem_cons.mpr ⟨cv1911 hg, (List.forall_mem_cons.mpr ⟨cv1912 hg, (List.forall_mem_cons.mpr ⟨cv1826 hg, (List.forall_mem_cons.mpr ⟨cv1828 hg, (fun _ h => absurd h List.not_mem_nil)⟩)⟩)⟩)⟩)⟩)⟩)
/-- LotBeliefs.Sentence.readNot -/
def ct1914 : sxCt := (44, 20, (1, [], [], [(0, .inl 1), (1, .inl 3)], [], [(1, (0, .ofNat 7), .inr (false, (0, .ofNat 1)))], []), [(1, 4), (1, 5), (1, 6), (1, 7), (1, 8), (1, 9), (1, 10)], [
  (3, [(1, .negSucc 9223372036854775807, .ofNat 9223372036854775807), (2, .ofNat 0, .ofNat 4)], [], [], [.inr (true, (1, .ofNat 0))], [(1, (0, .ofNat 3), .inr (false, (2, .ofNat 0))), (1, (0, .ofNat 7), .inr (false, (0, .ofNat 1)))], [])], [], 0, 0)
def cu1914 : List sxCu := []
set_option maxRecDepth 1000000 in
theorem cv1914 {gh : sxGh} (hg : sxGd sxKw gh) : sxCtV sxKw gh ct1914 := sxMeB_ok (cts := [ct1913, ct1596]) (cuts := cu1914) (sp := []) 99 (by decide +kernel) hg (by decide) (by decide) (List.forall_mem_cons.mpr ⟨cv1913 hg, (List.forall_mem_cons.mpr ⟨cv1596 hg, (fun _ h => absurd h List.not_mem_nil)⟩)⟩)
/-- LotBeliefs.Sentence.readIf -/
def ct1915 : sxCt := (45, 20, (1, [], [], [(0, .inl 1), (1, .inl 3)], [], [(1, (0, .ofNat 7), .inr (false, (0, .ofNat 1)))], []), [(1, 4), (1, 5), (1, 6), (1, 7), (1, 8), (1, 9), (1, 10)], [
  (3, [(1, .negSucc 9223372036854775807, .ofNat 9223372036854775807), (2, .ofNat 0, .ofNat 4)], [], [], [.inr (true, (1, .ofNat 0))], [(1, (0, .ofNat 3), .inr (false, (2, .ofNat 0))), (1, (0, .ofNat 7), .inr (false, (0, .ofNat 1)))], [])], [], 0, 0)
def cu1915 : List sxCu := []
set_option maxRecDepth 1000000 in
theorem cv1915 {gh : sxGh} (hg : sxGd sxKw gh) : sxCtV sxKw gh ct1915 := sxMeB_ok (cts := [ct1913, ct1596, ct1834]) (cuts := cu1915) (sp := []) 177 (by decide +kernel) hg (by decide) (by decide) (List.forall_mem_cons.mpr ⟨cv1913 hg, (List.forall_mem_cons.mpr ⟨cv1596 hg, (List.forall_mem_cons.mpr ⟨cv1834 hg, (fun _ h => absurd h List.not_mem_nil)⟩)⟩)⟩)
/-- LotBeliefs.Sentence.readEach -/
def ct1916 : sxCt := (42, 20, (1, [], [], [(0, .inl 1), (1, .inl 3)], [], [(1, (0, .ofNat 7), .inr (false, (0, .ofNat 2)))], []), [(1, 4), (1, 5), (1, 6), (1, 7), (1, 8), (1, 9), (1, 10)], [
  (3, [(1, .negSucc 9223372036854775807, .ofNat 9223372036854775807), (2, .ofNat 0, .ofNat 4)], [], [], [.inr (true, (1, .ofNat 0))], [(1, (0, .ofNat 3), .inr (false, (2, .ofNat 0))), (1, (0, .ofNat 7), .inr (false, (0, .ofNat 2)))], [])], [], 0, 0)
def cu1916 : List sxCu := [
  (9, (4, [(1, .negSucc 9223372036854775807, .ofNat 9223372036854775807), (2, .ofNat 0, .ofNat 600), (3, .ofNat 0, .ofNat 4)], [], [(0, .inl 1), (1, .inl 3), (2, .inr (true, (1, .ofNat 0))), (4, .inr (false, (2, .ofNat 0)))], [], [(1, (0, .ofNat 3), .inr (false, (3, .ofNat 0))), (1, (0, .ofNat 7), .inr (false, (0, .ofNat 2)))], []), ((0, 2, .ofNat 600), (0, 0, .ofNat 0), (0, 0, .ofNat 0)), 0, 0)]
set_option maxRecDepth 1000000 in
theorem cv1916 {gh : sxGh} (hg : sxGd sxKw gh) : sxCtV sxKw gh ct1916 := sxMeB_ok (cts := [ct1913, ct1596, ct1836]) (cuts := cu1916) (sp := []) 92 (by decide +kernel) hg (by decide) (by decide) (List.forall_mem_cons.mpr ⟨cv1913 hg, (List.forall_mem_cons.mpr ⟨cv1596 hg, (List.forall_mem_cons.mpr ⟨cv1836 hg, (fun _ h => absurd h List.not_mem_nil)⟩)⟩)⟩)
/-- LotBeliefs.Sentence.readEither -/
def ct1917 : sxCt := (41, 21, (1, [], [], [(0, .inl 1), (1, .inl 3)], [], [(1, (0, .ofNat 7), .inr (false, (0, .ofNat 2)))], []), [(1, 4), (1, 5), (1, 6), (1, 7), (1, 8), (1, 9), (1, 10)], [
  (3, [(1, .negSucc 9223372036854775807, .ofNat 9223372036854775807), (2, .ofNat 0, .ofNat 4)], [], [], [.inr (true, (1, .ofNat 0))], [(1, (0, .ofNat 3), .inr (false, (2, .ofNat 0))), (1, (0, .ofNat 7), .inr (false, (0, .ofNat 2)))], [])], [], 0, 0)
def cu1917 : List sxCu := [
  (9, (4, [(1, .negSucc 9223372036854775807, .ofNat 9223372036854775807), (2, .ofNat 0, .ofNat 600), (3, .ofNat 0, .ofNat 4)], [], [(0, .inl 1), (1, .inl 3), (2, .inr (true, (1, .ofNat 0))), (4, .inr (false, (2, .ofNat 0)))], [], [(1, (0, .ofNat 3), .inr (false, (3, .ofNat 0))), (1, (0, .ofNat 7), .inr (false, (0, .ofNat 2)))], []), ((0, 2, .ofNat 600), (0, 0, .ofNat 0), (0, 0, .ofNat 0)), 0, 0)]
set_option maxRecDepth 1000000 in
theorem cv1917 {gh : sxGh} (hg : sxGd sxKw gh) : sxCtV sxKw gh ct1917 := sxMeB_ok (cts := [ct1916, ct1596, ct1838]) (cuts := cu1917) (sp := []) 92 (by decide +kernel) hg (by decide) (by decide) (List.forall_mem_cons.mpr ⟨cv1916 hg, (List.forall_mem_cons.mpr ⟨cv1596 hg, (List.forall_mem_cons.mpr ⟨cv1838 hg, (fun _ h => absurd h List.not_mem_nil)⟩)⟩)⟩)
/-- LotBeliefs.Sentence.readBrackets -/
def ct1918 : sxCt := (46, 22, (1, [], [], [(0, .inl 1), (1, .inl 3)], [], [(1, (0, .ofNat 7), .inr (false, (0, .ofNat 1)))], []), [(1, 4), (1, 5), (1, 6), (1, 7), (1, 8), (1, 9), (1, 10)], [
  (3, [(1, .negSucc 9223372036854775807, .ofNat 9223372036854775807), (2, .ofNat 0, .ofNat 4)], [], [], [.inr (true, (1, .ofNat 0))], [(1, (0, .ofNat 3), .inr (false, (2, .ofNat 0))), (1, (0, .ofNat 7), .inr (false, (0, .ofNat 1)))], [])], [], 0, 0)
def cu1918 : List sxCu := []
set_option maxRecDepth 1000000 in
theorem cv1918 {gh : sxGh} (hg : sxGd sxKw gh) : sxCtV sxKw gh ct1918 := sxMeB_ok (cts := [ct1917, ct1596]) (cuts := cu1918) (sp := []) 196 (by decide +kernel) hg (by decide) (by decide) (List.forall_mem_cons.mpr ⟨cv1917 hg, (List.forall_mem_cons.mpr ⟨cv1596 hg, (fun _ h => absurd h List.not_mem_nil)⟩)⟩)
/-- LotBeliefs.Sentence.readAtom -/
def ct1919 : sxCt := (47, 1, (1, [], [], [(0, .inl 1), (1, .inl 3)], [], [(1, (0, .ofNat 7), .inr (false, (0, .ofNat 1)))], []), [(1, 4), (1, 5), (1, 6), (1, 7), (1, 9), (1, 10)], [
  (3, [(1, .negSucc 9223372036854775807, .ofNat 9223372036854775807), (2, .ofNat 0, .ofNat 4)], [], [], [.inr (true, (1, .ofNat 0))], [(1, (0, .ofNat 3), .inr (false, (2, .ofNat 0))), (1, (0, .ofNat 7), .inr (false, (0, .ofNat 1)))], [])], [], 0, 0)
def cu1919 : List sxCu := []
set_option maxRecDepth 1000000 in
theorem cv1919 {gh : sxGh} (hg : sxGd sxKw gh) : sxCtV sxKw gh ct1919 := sxMeB_ok (cts := [ct1596]) (cuts := cu1919) (sp := []) 222 (by decide +kernel) hg (by decide) (by decide) (List.forall_mem_cons.mpr ⟨cv1596 hg, (fun _ h => absurd h List.not_mem_nil)⟩)
/-- LotBeliefs.Sentence.readPart -/
def ct1920 : sxCt := (43, 23, (1, [], [], [(0, .inl 1), (1, .inl 3)], [], [(1, (0, .ofNat 7), .inr (false, (0, .ofNat 1)))], []), [(1, 4), (1, 5), (1, 6), (1, 7), (1, 8), (1, 9), (1, 10)], [
  (3, [(1, .negSucc 9223372036854775807, .ofNat 9223372036854775807), (2, .ofNat 0, .ofNat 4)], [], [], [.inr (true, (1, .ofNat 0))], [(1, (0, .ofNat 3), .inr (false, (2, .ofNat 0))), (1, (0, .ofNat 7), .inr (false, (0, .ofNat 1)))], [])], [], 0, 0)
def cu1920 : List sxCu := []
set_option maxRecDepth 1000000 in
theorem cv1920 {gh : sxGh} (hg : sxGd sxKw gh) : sxCtV sxKw gh ct1920 := sxMeB_ok (cts := [ct1914, ct1915, ct1918, ct1919, ct1826, ct1828]) (cuts := cu1920) (sp := []) 118 (by decide +kernel) hg (by decide) (by decide) (List.forall_mem_cons.mpr ⟨cv1914 hg, (List.forall_mem_cons.mpr ⟨cv1915 hg, (List.forall_mem_cons.mpr ⟨cv1918 hg, (List.forall_mem_cons.mpr ⟨cv1919 hg, (List.forall_mem_cons.mpr ⟨cv1826 hg, (List.forall_mem_cons.mpr ⟨cv1828 hg, (fun _ h => absurd h List.not_mem_nil)⟩)⟩)⟩)⟩)⟩)⟩)
/-- LotBeliefs.Sentence.readNot -/
def ct1921 : sxCt := (44, 24, (1, [], [], [(0, .inl 1), (1, .inl 3)], [], [(1, (0, .ofNat 7), .inr (false, (0, .ofNat 0)))], []), [(1, 4), (1, 5), (1, 6), (1, 7), (1, 8), (1, 9), (1, 10)], [
  (3, [(1, .negSucc 9223372036854775807, .ofNat 9223372036854775807), (2, .ofNat 0, .ofNat 4)], [], [], [.inr (true, (1, .ofNat 0))], [(1, (0, .ofNat 3), .inr (false, (2, .ofNat 0))), (1, (0, .ofNat 7), .inr (false, (0, .ofNat 0)))], [])], [], 0, 0)
def cu1921 : List sxCu := []
set_option maxRecDepth 1000000 in
theorem cv1921 {gh : sxGh} (hg : sxGd sxKw gh) : sxCtV sxKw gh ct1921 := sxMeB_ok (cts := [ct1920, ct1596]) (cuts := cu1921) (sp := []) 99 (by decide +kernel) hg (by decide) (by decide) (List.forall_mem_cons.mpr ⟨cv1920 hg, (List.forall_mem_cons.mpr ⟨cv1596 hg, (fun _ h => absurd h List.not_mem_nil)⟩)⟩)
/-- LotBeliefs.Sentence.readIf -/
def ct1922 : sxCt := (45, 24, (1, [], [], [(0, .inl 1), (1, .inl 3)], [], [(1, (0, .ofNat 7), .inr (false, (0, .ofNat 0)))], []), [(1, 4), (1, 5), (1, 6), (1, 7), (1, 8), (1, 9), (1, 10)], [
  (3, [(1, .negSucc 9223372036854775807, .ofNat 9223372036854775807), (2, .ofNat 0, .ofNat 4)], [], [], [.inr (true, (1, .ofNat 0))], [(1, (0, .ofNat 3), .inr (false, (2, .ofNat 0))), (1, (0, .ofNat 7), .inr (false, (0, .ofNat 0)))], [])], [], 0, 0)
def cu1922 : List sxCu := []
set_option maxRecDepth 1000000 in
theorem cv1922 {gh : sxGh} (hg : sxGd sxKw gh) : sxCtV sxKw gh ct1922 := sxMeB_ok (cts := [ct1920, ct1596, ct1834]) (cuts := cu1922) (sp := []) 177 (by decide +kernel) hg (by decide) (by decide) (List.forall_mem_cons.mpr ⟨cv1920 hg, (List.forall_mem_cons.mpr ⟨cv1596 hg, (List.forall_mem_cons.mpr ⟨cv1834 hg, (fun _ h => absurd h List.not_mem_nil)⟩)⟩)⟩)
/-- LotBeliefs.Sentence.readEach -/
def ct1923 : sxCt := (42, 24, (1, [], [], [(0, .inl 1), (1, .inl 3)], [], [(1, (0, .ofNat 7), .inr (false, (0, .ofNat 1)))], []), [(1, 4), (1, 5), (1, 6), (1, 7), (1, 8), (1, 9), (1, 10)], [
  (3, [(1, .negSucc 9223372036854775807, .ofNat 9223372036854775807), (2, .ofNat 0, .ofNat 4)], [], [], [.inr (true, (1, .ofNat 0))], [(1, (0, .ofNat 3), .inr (false, (2, .ofNat 0))), (1, (0, .ofNat 7), .inr (false, (0, .ofNat 1)))], [])], [], 0, 0)
def cu1923 : List sxCu := [
  (9, (4, [(1, .negSucc 9223372036854775807, .ofNat 9223372036854775807), (2, .ofNat 0, .ofNat 600), (3, .ofNat 0, .ofNat 4)], [], [(0, .inl 1), (1, .inl 3), (2, .inr (true, (1, .ofNat 0))), (4, .inr (false, (2, .ofNat 0)))], [], [(1, (0, .ofNat 3), .inr (false, (3, .ofNat 0))), (1, (0, .ofNat 7), .inr (false, (0, .ofNat 1)))], []), ((0, 2, .ofNat 600), (0, 0, .ofNat 0), (0, 0, .ofNat 0)), 0, 0)]
set_option maxRecDepth 1000000 in
theorem cv1923 {gh : sxGh} (hg : sxGd sxKw gh) : sxCtV sxKw gh ct1923 := sxMeB_ok (cts := [ct1920, ct1596, ct1836]) (cuts := cu1923) (sp := []) 92 (by decide +kernel) hg (by decide) (by decide) (List.forall_mem_cons.mpr ⟨cv1920 hg, (List.forall_mem_cons.mpr ⟨cv1596 hg, (List.forall_mem_cons.mpr ⟨cv1836 hg, (fun _ h => absurd h List.not_mem_nil)⟩)⟩)⟩)
/-- LotBeliefs.Sentence.readEither -/
def ct1924 : sxCt := (41, 25, (1, [], [], [(0, .inl 1), (1, .inl 3)], [], [(1, (0, .ofNat 7), .inr (false, (0, .ofNat 1)))], []), [(1, 4), (1, 5), (1, 6), (1, 7), (1, 8), (1, 9), (1, 10)], [
  (3, [(1, .negSucc 9223372036854775807, .ofNat 9223372036854775807), (2, .ofNat 0, .ofNat 4)], [], [], [.inr (true, (1, .ofNat 0))], [(1, (0, .ofNat 3), .inr (false, (2, .ofNat 0))), (1, (0, .ofNat 7), .inr (false, (0, .ofNat 1)))], [])], [], 0, 0)
def cu1924 : List sxCu := [
  (9, (4, [(1, .negSucc 9223372036854775807, .ofNat 9223372036854775807), (2, .ofNat 0, .ofNat 600), (3, .ofNat 0, .ofNat 4)], [], [(0, .inl 1), (1, .inl 3), (2, .inr (true, (1, .ofNat 0))), (4, .inr (false, (2, .ofNat 0)))], [], [(1, (0, .ofNat 3), .inr (false, (3, .ofNat 0))), (1, (0, .ofNat 7), .inr (false, (0, .ofNat 1)))], []), ((0, 2, .ofNat 600), (0, 0, .ofNat 0), (0, 0, .ofNat 0)), 0, 0)]
set_option maxRecDepth 1000000 in
theorem cv1924 {gh : sxGh} (hg : sxGd sxKw gh) : sxCtV sxKw gh ct1924 := sxMeB_ok (cts := [ct1923, ct1596, ct1838]) (cuts := cu1924) (sp := []) 92 (by decide +kernel) hg (by decide) (by decide) (List.forall_mem_cons.mpr ⟨cv1923 hg, (List.forall_mem_cons.mpr ⟨cv1596 hg, (List.forall_mem_cons.mpr ⟨cv1838 hg, (fun _ h => absurd h List.not_mem_nil)⟩)⟩)⟩)
/-- LotBeliefs.Sentence.readBrackets -/
def ct1925 : sxCt := (46, 26, (1, [], [], [(0, .inl 1), (1, .inl 3)], [], [(1, (0, .ofNat 7), .inr (false, (0, .ofNat 0)))], []), [(1, 4), (1, 5), (1, 6), (1, 7), (1, 8), (1, 9), (1, 10)], [
  (3, [(1, .negSucc 9223372036854775807, .ofNat 9223372036854775807), (2, .ofNat 0, .ofNat 4)], [], [], [.inr (true, (1, .ofNat 0))], [(1, (0, .ofNat 3), .inr (false, (2, .ofNat 0))), (1, (0, .ofNat 7), .inr (false, (0, .ofNat 0)))], [])], [], 0, 0)
def cu1925 : List sxCu := []
set_option maxRecDepth 1000000 in
theorem cv1925 {gh : sxGh} (hg : sxGd sxKw gh) : sxCtV sxKw gh ct1925 := sxMeB_ok (cts := [ct1924, ct1596]) (cuts := cu1925) (sp := []) 196 (by decide +kernel) hg (by decide) (by decide) (List.forall_mem_cons.mpr ⟨cv1924 hg, (List.forall_mem_cons.mpr ⟨cv1596 hg, (fun _ h => absurd h List.not_mem_nil)⟩)⟩)
/-- LotBeliefs.Sentence.readAtom -/
def ct1926 : sxCt := (47, 1, (1, [], [], [(0, .inl 1), (1, .inl 3)], [], [(1, (0, .ofNat 7), .inr (false, (0, .ofNat 0)))], []), [(1, 4), (1, 5), (1, 6), (1, 7), (1, 9), (1, 10)], [
  (3, [(1, .negSucc 9223372036854775807, .ofNat 9223372036854775807), (2, .ofNat 0, .ofNat 4)], [], [], [.inr (true, (1, .ofNat 0))], [(1, (0, .ofNat 3), .inr (false, (2, .ofNat 0))), (1, (0, .ofNat 7), .inr (false, (0, .ofNat 0)))], [])], [], 0, 0)
def cu1926 : List sxCu := []
set_option maxRecDepth 1000000 in
theorem cv1926 {gh : sxGh} (hg : sxGd sxKw gh) : sxCtV sxKw gh ct1926 := sxMeB_ok (cts := [ct1596]) (cuts := cu1926) (sp := []) 222 (by decide +kernel) hg (by decide) (by decide) (List.forall_mem_cons.mpr ⟨cv1596 hg, (fun _ h => absurd h List.not_mem_nil)⟩)
/-- LotBeliefs.Sentence.readPart -/
def ct1927 : sxCt := (43, 27, (1, [], [], [(0, .inl 1), (1, .inl 3)], [], [(1, (0, .ofNat 7), .inr (false, (0, .ofNat 0)))], []), [(1, 4), (1, 5), (1, 6), (1, 7), (1, 8), (1, 9), (1, 10)], [
  (3, [(1, .negSucc 9223372036854775807, .ofNat 9223372036854775807), (2, .ofNat 0, .ofNat 4)], [], [], [.inr (true, (1, .ofNat 0))], [(1, (0, .ofNat 3), .inr (false, (2, .ofNat 0))), (1, (0, .ofNat 7), .inr (false, (0, .ofNat 0)))], [])], [], 0, 0)
def cu1927 : List sxCu := []
set_option maxRecDepth 1000000 in
theorem cv1927 {gh : sxGh} (hg : sxGd sxKw gh) : sxCtV sxKw gh ct1927 := sxMeB_ok (cts := [ct1921, ct1922, ct1925, ct1926, ct1826, ct1828]) (cuts := cu1927) (sp := []) 118 (by decide +kernel) hg (by decide) (by decide) (List.forall_mem_cons.mpr ⟨cv1921 hg, (List.forall_mem_cons.mpr ⟨cv1922 hg, (List.forall_mem_cons.mpr ⟨cv1925 hg, (List.forall_mem_cons.mpr ⟨cv1926 hg, (List.forall_mem_cons.mpr ⟨cv1826 hg, (List.forall_mem_cons.mpr ⟨cv1828 hg, (fun _ h => absurd h List.not_mem_nil)⟩)⟩)⟩)⟩)⟩)⟩)
/-- LotBeliefs.Sentence.readEach -/
def ct1928 : sxCt := (42, 28, (1, [], [], [(0, .inl 1), (1, .inl 3)], [], [(1, (0, .ofNat 7), .inr (false, (0, .ofNat 0)))], []), [(1, 4), (1, 5), (1, 6), (1, 7), (1, 8), (1, 9), (1, 10)], [
  (3, [(1, .negSucc 9223372036854775807, .ofNat 9223372036854775807), (2, .ofNat 0, .ofNat 4)], [], [], [.inr (true, (1, .ofNat 0))], [(1, (0, .ofNat 3), .inr (false, (2, .ofNat 0))), (1, (0, .ofNat 7), .inr (false, (0, .ofNat 0)))], [])], [], 0, 0)
def cu1928 : List sxCu := [
  (9, (4, [(1, .negSucc 9223372036854775807, .ofNat 9223372036854775807), (2, .ofNat 0, .ofNat 600), (3, .ofNat 0, .ofNat 4)], [], [(0, .inl 1), (1, .inl 3), (2, .inr (true, (1, .ofNat 0))), (4, .inr (false, (2, .ofNat 0)))], [], [(1, (0, .ofNat 3), .inr (false, (3, .ofNat 0))), (1, (0, .ofNat 7), .inr (false, (0, .ofNat 0)))], []), ((0, 2, .ofNat 600), (0, 0, .ofNat 0), (0, 0, .ofNat 0)), 0, 0)]
set_option maxRecDepth 1000000 in
theorem cv1928 {gh : sxGh} (hg : sxGd sxKw gh) : sxCtV sxKw gh ct1928 := sxMeB_ok (cts := [ct1927, ct1596, ct1836]) (cuts := cu1928) (sp := []) 92 (by decide +kernel) hg (by decide) (by decide) (List.forall_mem_cons.mpr ⟨cv1927 hg, (List.forall_mem_cons.mpr ⟨cv1596 hg, (List.forall_mem_cons.mpr ⟨cv1836 hg, (fun _ h => absurd h List.not_mem_nil)⟩)⟩)⟩)
/-- LotBeliefs.Sentence.readEither -/
def ct1929 : sxCt := (41, 29, (1, [], [], [(0, .inl 1), (1, .inl 3)], [], [(1, (0, .ofNat 7), .inr (false, (0, .ofNat 0)))], []), [(1, 4), (1, 5), (1, 6), (1, 7), (1, 8), (1, 9), (1, 10)], [
  (3, [(1, .negSucc 9223372036854775807, .ofNat 9223372036854775807), (2, .ofNat 0, .ofNat 4)], [], [], [.inr (true, (1, .ofNat 0))], [(1, (0, .ofNat 3), .inr (false, (2, .ofNat 0))), (1, (0, .ofNat 7), .inr (false, (0, .ofNat 0)))], [])], [], 0, 0)
def cu1929 : List sxCu := [
  (9, (4, [(1, .negSucc 9223372036854775807, .ofNat 9223372036854775807), (2, .ofNat 0, .ofNat 600), (3, .ofNat 0, .ofNat 4)], [], [(0, .inl 1), (1, .inl 3), (2, .inr (true, (1, .ofNat 0))), (4, .inr (false, (2, .ofNat 0)))], [], [(1, (0, .ofNat 3), .inr (false, (3, .ofNat 0))), (1, (0, .ofNat 7), .inr (false, (0, .ofNat 0)))], []), ((0, 2, .ofNat 600), (0, 0, .ofNat 0), (0, 0, .ofNat 0)), 0, 0)]
set_option maxRecDepth 1000000 in
theorem cv1929 {gh : sxGh} (hg : sxGd sxKw gh) : sxCtV sxKw gh ct1929 := sxMeB_ok (cts := [ct1928, ct1596, ct1838]) (cuts := cu1929) (sp := []) 92 (by decide +kernel) hg (by decide) (by decide) (List.forall_mem_cons.mpr ⟨cv1928 hg, (List.forall_mem_cons.mpr ⟨cv1596 hg, (List.forall_mem_cons.mpr ⟨cv1838 hg, (fun _ h => absurd h List.not_mem_nil)⟩)⟩)⟩)
/-- LotBeliefs.Sentence.readAlone -/
def ct1930 : sxCt := (40, 30, (1, [], [], [(0, .inl 1), (1, .inl 3)], [], [(1, (0, .ofNat 7), .inr (false, (0, .ofNat 0)))], []), [(1, 4), (1, 5), (1, 6), (1, 7), (1, 8), (1, 9), (1, 10)], [
  (3, [(1, .negSucc 9223372036854775807, .ofNat 9223372036854775807), (2, .ofNat 0, .ofNat 4)], [], [], [.inr (true, (1, .ofNat 0))], [(1, (0, .ofNat 3), .inr (false, (2, .ofNat 0))), (1, (0, .ofNat 7), .inr (false, (0, .ofNat 0)))], [])], [], 0, 0)
def cu1930 : List sxCu := []
set_option maxRecDepth 1000000 in
theorem cv1930 {gh : sxGh} (hg : sxGd sxKw gh) : sxCtV sxKw gh ct1930 := sxMeB_ok (cts := [ct1929]) (cuts := cu1930) (sp := []) 108 (by decide +kernel) hg (by decide) (by decide) (List.forall_mem_cons.mpr ⟨cv1929 hg, (fun _ h => absurd h List.not_mem_nil)⟩)
/-- LotBeliefs.question -/
def ct1931 : sxCt := (115, 31, (3, [(1, .negSucc 2147483647, .ofNat 2147483647), (2, .ofNat 0, .ofNat 600)], [], [(0, .inl 0), (1, .inr (false, (1, .ofNat 0)))], [], [(1, (0, .ofNat 1), .inr (false, (2, .ofNat 0)))], []), [(0, 2), (0, 7), (1, 2), (1, 3), (1, 4), (1, 5), (1, 6), (1, 7), (1, 8), (1, 9), (1, 10), (30, 0)], [
  (8, [(1, .ofNat 0, .ofNat 200), (2, .ofNat 0, .ofNat 600), (3, .negSucc 8, .ofNat 127), (4, .negSucc 0, .ofNat 600), (5, .ofNat 0, .ofNat 200), (6, .ofNat 0, .ofNat 4), (7, .ofNat 0, .ofNat 4)], [(1, 5, .ofNat 0), (5, 1, .ofNat 0), (5, 2, .ofNat 0), (7, 3, .ofNat 10), (1, 2, .ofNat 0)], [], [.inr (false, (3, .ofNat 0))], [(0, (0, .ofNat 1), .inr (false, (4, .ofNat 0))), (1, (0, .ofNat 1), .inr (false, (0, .ofNat 0))), (1, (0, .ofNat 2), .inr (false, (5, .ofNat 0))), (1, (0, .ofNat 3), .inr (false, (6, .ofNat 0))), (1, (0, .ofNat 7), .inr (false, (0, .ofNat 0))), (1, (0, .ofNat 8), .inr (false, (7, .ofNat 0))), (1, (0, .ofNat 9), .inr (false, (4, .ofNat 0)))], [])], [
  (1, (4, [(1, .ofNat 201, .ofNat 600), (2, .ofNat 201, .ofNat 600), (3, .negSucc 2147483647, .ofNat 2147483647)], [(1, 2, .ofNat 0)], [], [], [(1, (0, .ofNat 1), .inr (false, (2, .ofNat 0))), (30, (0, .ofNat 1), .inr (false, (3, .ofNat 0)))], [])), 
  (1, (4, [(1, .ofNat 1, .ofNat 2147483647), (2, .ofNat 0, .ofNat 600), (3, .negSucc 2147483647, .ofNat 2147483647)], [(2, 1, .negSucc 0)], [], [], [(1, (0, .ofNat 1), .inr (false, (2, .ofNat 0))), (30, (0, .ofNat 1), .inr (false, (3, .ofNat 0)))], [])), 
  (1, (4, [(1, .negSucc 2147483647, .negSucc 0), (2, .ofNat 0, .ofNat 600), (3, .negSucc 2147483647, .ofNat 2147483647)], [(1, 2, .ofNat 0)], [], [], [(1, (0, .ofNat 1), .inr (false, (2, .ofNat 0))), (30, (0, .ofNat 1), .inr (false, (3, .ofNat 0)))], []))], 1, 6)
def cu1931 : List sxCu := []
set_option maxRecDepth 1000000 in
theorem cv1931 {gh : sxGh} (hg : sxGd sxKw gh) : sxCtV sxKw gh ct1931 := sxMeB_ok (cts := [ct1880, ct1930, ct1596, ct24]) (cuts := cu1931) (sp := []) 275 (by decide +kernel) hg (by decide) (by decide) (List.forall_mem_cons.mpr ⟨cv1880 hg, (List.forall_mem_cons.mpr ⟨cv1930 hg, (List.forall_mem_cons.mpr ⟨cv1596 hg, (List.forall_mem_cons.mpr ⟨cv24 hg, (fun _ h => absurd h List.not_mem_nil)⟩)⟩)⟩)⟩)
/-- LotBeliefsLaw.question -/
def ct1932 : sxCt := (330, 32, (3, [(1, .negSucc 2147483647, .ofNat 2147483647), (2, .ofNat 0, .ofNat 600)], [], [(0, .inl 0), (1, .inr (false, (1, .ofNat 0))), (2, .inl 578)], [], [(1, (0, .ofNat 1), .inr (false, (2, .ofNat 0)))], []), [(0, 2), (0, 7), (1, 2), (1, 3), (1, 4), (1, 5), (1, 6), (1, 7), (1, 8), (1, 9), (1, 10), (30, 0), (578, 0)], [
  (4, [(1, .negSucc 2147483647, .negSucc 0), (2, .ofNat 0, .ofNat 600), (3, .negSucc 2147483647, .ofNat 2147483647)], [(1, 2, .ofNat 0)], [], [.inr (false, (0, .ofNat 1))], [(1, (0, .ofNat 1), .inr (false, (2, .ofNat 0))), (30, (0, .ofNat 1), .inr (false, (3, .ofNat 0)))], []), 
  (4, [(1, .ofNat 1, .ofNat 2147483647), (2, .ofNat 0, .ofNat 600), (3, .negSucc 2147483647, .ofNat 2147483647)], [(2, 1, .negSucc 0)], [], [.inr (false, (0, .ofNat 1))], [(1, (0, .ofNat 1), .inr (false, (2, .ofNat 0))), (30, (0, .ofNat 1), .inr (false, (3, .ofNat 0)))], []), 
  (4, [(1, .ofNat 201, .ofNat 600), (2, .ofNat 201, .ofNat 600), (3, .negSucc 2147483647, .ofNat 2147483647)], [(1, 2, .ofNat 0)], [], [.inr (false, (0, .ofNat 1))], [(1, (0, .ofNat 1), .inr (false, (2, .ofNat 0))), (30, (0, .ofNat 1), .inr (false, (3, .ofNat 0)))], []), 
  (8, [(1, .ofNat 0, .ofNat 200), (2, .ofNat 0, .ofNat 600), (3, .negSucc 0, .ofNat 600), (4, .ofNat 0, .ofNat 200), (5, .ofNat 0, .ofNat 4), (6, .ofNat 0, .ofNat 4), (7, .negSucc 8, .ofNat 127)], [(1, 4, .ofNat 0), (4, 1, .ofNat 0), (4, 2, .ofNat 0), (6, 7, .ofNat 10), (1, 2, .ofNat 0)], [], [.inr (false, (0, .ofNat 0))], [(0, (0, .ofNat 1), .inr (false, (3, .ofNat 0))), (1, (0, .ofNat 1), .inr (false, (0, .ofNat 0))), (1, (0, .ofNat 2), .inr (false, (4, .ofNat 0))), (1, (0, .ofNat 3), .inr (false, (5, .ofNat 0))), (1, (0, .ofNat 7), .inr (false, (0, .ofNat 0))), (1, (0, .ofNat 8), .inr (false, (6, .ofNat 0))), (1, (0, .ofNat 9), .inr (false, (3, .ofNat 0))), (578, (0, .ofNat 0), .inr (true, (7, .ofNat 0)))], [])], [], 1, 6)
def cu1932 : List sxCu := []
set_option maxRecDepth 1000000 in
theorem cv1932 {gh : sxGh} (hg : sxGd sxKw gh) : sxCtV sxKw gh ct1932 := sxMeB_ok (cts := [ct1931]) (cuts := cu1932) (sp := []) 77 (by decide +kernel) hg (by decide) (by decide) (List.forall_mem_cons.mpr ⟨cv1931 hg, (fun _ h => absurd h List.not_mem_nil)⟩)
/-- LotBeliefsModel.blanks -/
def ct1933 : sxCt := (200, 1, (3, [(1, .ofNat 0, .ofNat 600), (2, .ofNat 0, .ofNat 600)], [], [(0, .inl 78)], [], [(78, (0, .ofNat 2), .inr (false, (1, .ofNat 0))), (78, (0, .ofNat 4), .inr (false, (2, .ofNat 0)))], []), [(78, 5), (579, 5)], [
  (4, [(1, .ofNat 0, .ofNat 600), (2, .ofNat 0, .ofNat 600), (3, .ofNat 0, .ofNat 600)], [(2, 3, .ofNat 0)], [], [], [(78, (0, .ofNat 2), .inr (false, (1, .ofNat 0))), (78, (0, .ofNat 4), .inr (false, (3, .ofNat 0)))], [])], [], 0, 0)
def cu1933 : List sxCu := [
  (0, (4, [(1, .ofNat 1, .ofNat 600), (2, .ofNat 0, .ofNat 599), (3, .ofNat 1, .ofNat 600)], [(2, 3, .negSucc 0)], [(0, .inl 78)], [], [(78, (0, .ofNat 2), .inr (false, (1, .ofNat 0))), (78, (0, .ofNat 4), .inr (false, (3, .ofNat 0))), (78, (0, .ofNat 9), .inl 79)], []), ((0, 3, .ofNat 600), (0, 0, .ofNat 0), (0, 0, .ofNat 0)), 0, 0)]
set_option maxRecDepth 1000000 in
theorem cv1933 {gh : sxGh} (hg : sxGd sxKw gh) : sxCtV sxKw gh ct1933 := sxMeB_ok (cts := []) (cuts := cu1933) (sp := []) 118 (by decide +kernel) hg (by decide) (by decide) (fun _ h => absurd h List.not_mem_nil)
/-- LotBeliefsModel.wordHere -/
def ct1934 : sxCt := (205, 2, (3, [(1, .ofNat 0, .ofNat 600), (2, .ofNat 0, .ofNat 600)], [], [(0, .inl 78)], [], [(78, (0, .ofNat 2), .inr (false, (1, .ofNat 0))), (78, (0, .ofNat 4), .inr (false, (2, .ofNat 0)))], []), [(78, 5), (579, 5)], [
  (4, [(1, .ofNat 0, .ofNat 600), (2, .ofNat 0, .ofNat 600), (3, .ofNat 0, .ofNat 600)], [(2, 3, .ofNat 0)], [], [.inr (false, (0, .ofNat 0))], [(78, (0, .ofNat 2), .inr (false, (1, .ofNat 0))), (78, (0, .ofNat 4), .inr (false, (3, .ofNat 0)))], []), 
  (6, [(1, .ofNat 1, .ofNat 600), (2, .ofNat 0, .ofNat 599), (3, .ofNat 1, .ofNat 387420488), (4, .ofNat 0, .ofNat 599), (5, .ofNat 97, .ofNat 122)], [(2, 4, .ofNat 0), (4, 1, .negSucc 0), (5, 3, .ofNat 96)], [], [.inr (false, (3, .ofNat 0))], [(78, (0, .ofNat 2), .inr (false, (1, .ofNat 0))), (78, (0, .ofNat 4), .inr (false, (4, .ofNat 0))), (79, (4, .ofNat 0), .inr (false, (5, .ofNat 0)))], []), 
  (5, [(1, .ofNat 7, .ofNat 600), (2, .ofNat 0, .ofNat 593), (3, .ofNat 0, .ofNat 593), (4, .ofNat 97, .ofNat 122)], [(2, 3, .ofNat 0), (3, 1, .negSucc 6)], [], [.inr (false, (0, .negSucc 0))], [(78, (0, .ofNat 2), .inr (false, (1, .ofNat 0))), (78, (0, .ofNat 4), .inr (false, (3, .ofNat 0))), (79, (3, .ofNat 0), .inr (false, (4, .ofNat 0)))], [])], [], 0, 0)
def cu1934 : List sxCu := [
  (53, (7, [(1, .ofNat 7, .ofNat 600), (2, .ofNat 0, .ofNat 593), (3, .ofNat 14900788, .ofNat 387420488), (4, .ofNat 6, .ofNat 600), (5, .ofNat 0, .ofNat 593), (6, .ofNat 97, .ofNat 122)], [(2, 5, .ofNat 0), (5, 1, .negSucc 6)], [(0, .inl 78), (1, .inr (false, (3, .ofNat 0))), (2, .inr (false, (4, .ofNat 0)))], [], [(78, (0, .ofNat 2), .inr (false, (1, .ofNat 0))), (78, (0, .ofNat 4), .inr (false, (5, .ofNat 0))), (78, (0, .ofNat 9), .inl 79), (79, (5, .ofNat 0), .inr (false, (6, .ofNat 0)))], []), ((0, 4, .ofNat 600), (0, 0, .ofNat 0), (0, 0, .ofNat 0)), 0, 0)]
set_option maxRecDepth 1000000 in
theorem cv1934 {gh : sxGh} (hg : sxGd sxKw gh) : sxCtV sxKw gh ct1934 := sxMeB_ok (cts := [ct1933]) (cuts := cu1934) (sp := []) 716 (by decide +kernel) hg (by decide) (by decide) (List.forall_mem_cons.mpr ⟨cv1933 hg, (fun _ h => absurd h List.not_mem_nil)⟩)
/-- LotBeliefsModel.isWord -/
def ct1935 : sxCt := (207, 3, (4, [(1, .ofNat 0, .ofNat 4), (2, .ofNat 0, .ofNat 600), (3, .ofNat 0, .ofNat 600)], [], [(0, .inl 78), (1, .inr (false, (0, .ofNat 14))), (2, .inr (false, (0, .ofNat 15))), (3, .inr (false, (0, .ofNat 20))), (4, .inr (false, (0, .ofNat 0))), (5, .inr (false, (0, .ofNat 0))), (6, .inr (false, (0, .ofNat 0)))], [], [(78, (0, .ofNat 5), .inr (false, (1, .ofNat 0))), (78, (0, .ofNat 2), .inr (false, (2, .ofNat 0))), (78, (0, .ofNat 4), .inr (false, (3, .ofNat 0)))], []), [(78, 5), (579, 5)], [
  (5, [(1, .ofNat 0, .ofNat 0), (2, .ofNat 0, .ofNat 600), (3, .ofNat 0, .ofNat 600), (4, .ofNat 0, .ofNat 600)], [(3, 4, .ofNat 0)], [], [.inr (false, (0, .ofNat 0))], [(78, (0, .ofNat 2), .inr (false, (2, .ofNat 0))), (78, (0, .ofNat 4), .inr (false, (4, .ofNat 0))), (78, (0, .ofNat 5), .inr (false, (1, .ofNat 0)))], []), 
  (6, [(1, .ofNat 0, .ofNat 0), (2, .ofNat 1, .ofNat 600), (3, .ofNat 0, .ofNat 599), (4, .ofNat 0, .ofNat 599), (5, .ofNat 97, .ofNat 122)], [(3, 4, .ofNat 0), (4, 2, .negSucc 0)], [], [.inr (false, (0, .ofNat 1))], [(78, (0, .ofNat 2), .inr (false, (2, .ofNat 0))), (78, (0, .ofNat 4), .inr (false, (4, .ofNat 0))), (78, (0, .ofNat 5), .inr (false, (1, .ofNat 0))), (79, (4, .ofNat 0), .inr (false, (5, .ofNat 0)))], []), 
  (4, [(1, .ofNat 1, .ofNat 4), (2, .ofNat 0, .ofNat 600), (3, .ofNat 0, .ofNat 600)], [], [], [.inr (false, (0, .ofNat 0))], [(78, (0, .ofNat 2), .inr (false, (2, .ofNat 0))), (78, (0, .ofNat 4), .inr (false, (3, .ofNat 0))), (78, (0, .ofNat 5), .inr (false, (1, .ofNat 0)))], [])], [], 0, 0)
def cu1935 : List sxCu := []
set_option maxRecDepth 1000000 in
theorem cv1935 {gh : sxGh} (hg : sxGd sxKw gh) : sxCtV sxKw gh ct1935 := sxMeB_ok (cts := [ct1934]) (cuts := cu1935) (sp := []) 188 (by decide +kernel) hg (by decide) (by decide) (List.forall_mem_cons.mpr ⟨cv1934 hg, (fun _ h => absurd h List.not_mem_nil)⟩)
/-- LotBeliefsModel.skipWord -/
def ct1936 : sxCt := (208, 1, (4, [(1, .ofNat 0, .ofNat 600), (2, .ofNat 0, .ofNat 599), (3, .ofNat 97, .ofNat 122)], [(2, 1, .negSucc 0)], [(0, .inl 78)], [], [(78, (0, .ofNat 2), .inr (false, (1, .ofNat 0))), (78, (0, .ofNat 4), .inr (false, (2, .ofNat 0))), (79, (2, .ofNat 0), .inr (false, (3, .ofNat 0)))], []), [(78, 5), (579, 5)], [
  (5, [(1, .ofNat 1, .ofNat 600), (2, .ofNat 0, .ofNat 599), (3, .ofNat 97, .ofNat 122), (4, .ofNat 1, .ofNat 600)], [(2, 4, .negSucc 0), (4, 1, .ofNat 0), (2, 1, .negSucc 0)], [], [], [(78, (0, .ofNat 2), .inr (false, (1, .ofNat 0))), (78, (0, .ofNat 4), .inr (false, (4, .ofNat 0)))], [])], [], 0, 0)
def cu1936 : List sxCu := [
  (24, (5, [(1, .ofNat 1, .ofNat 600), (2, .ofNat 0, .ofNat 599), (3, .ofNat 97, .ofNat 122), (4, .ofNat 1, .ofNat 600)], [(2, 4, .negSucc 0), (4, 1, .ofNat 0), (2, 1, .negSucc 0)], [(0, .inl 78)], [], [(78, (0, .ofNat 2), .inr (false, (1, .ofNat 0))), (78, (0, .ofNat 4), .inr (false, (4, .ofNat 0))), (78, (0, .ofNat 9), .inl 79)], []), ((0, 4, .ofNat 600), (0, 0, .ofNat 0), (0, 0, .ofNat 0)), 0, 0)]
set_option maxRecDepth 1000000 in
theorem cv1936 {gh : sxGh} (hg : sxGd sxKw gh) : sxCtV sxKw gh ct1936 := sxMeB_ok (cts := []) (cuts := cu1936) (sp := []) 140 (by decide +kernel) hg (by decide) (by decide) (fun _ h => absurd h List.not_mem_nil)
/-- LotBeliefsModel.isWord -/
def ct1937 : sxCt := (207, 3, (4, [(1, .ofNat 0, .ofNat 4), (2, .ofNat 0, .ofNat 600), (3, .ofNat 0, .ofNat 600)], [], [(0, .inl 78), (1, .inr (false, (0, .ofNat 9))), (2, .inr (false, (0, .ofNat 6))), (3, .inr (false, (0, .ofNat 0))), (4, .inr (false, (0, .ofNat 0))), (5, .inr (false, (0, .ofNat 0))), (6, .inr (false, (0, .ofNat 0)))], [], [(78, (0, .ofNat 5), .inr (false, (1, .ofNat 0))), (78, (0, .ofNat 2), .inr (false, (2, .ofNat 0))), (78, (0, .ofNat 4), .inr (false, (3, .ofNat 0)))], []), [(78, 5), (579, 5)], [
  (5, [(1, .ofNat 0, .ofNat 0), (2, .ofNat 0, .ofNat 600), (3, .ofNat 0, .ofNat 600), (4, .ofNat 0, .ofNat 600)], [(3, 4, .ofNat 0)], [], [.inr (false, (0, .ofNat 0))], [(78, (0, .ofNat 2), .inr (false, (2, .ofNat 0))), (78, (0, .ofNat 4), .inr (false, (4, .ofNat 0))), (78, (0, .ofNat 5), .inr (false, (1, .ofNat 0)))], []), 
  (6, [(1, .ofNat 0, .ofNat 0), (2, .ofNat 1, .ofNat 600), (3, .ofNat 0, .ofNat 599), (4, .ofNat 0, .ofNat 599), (5, .ofNat 97, .ofNat 122)], [(3, 4, .ofNat 0), (4, 2, .negSucc 0)], [], [.inr (false, (0, .ofNat 1))], [(78, (0, .ofNat 2), .inr (false, (2, .ofNat 0))), (78, (0, .ofNat 4), .inr (false, (4, .ofNat 0))), (78, (0, .ofNat 5), .inr (false, (1, .ofNat 0))), (79, (4, .ofNat 0), .inr (false, (5, .ofNat 0)))], []), 
  (4, [(1, .ofNat 1, .ofNat 4), (2, .ofNat 0, .ofNat 600), (3, .ofNat 0, .ofNat 600)], [], [], [.inr (false, (0, .ofNat 0))], [(78, (0, .ofNat 2), .inr (false, (2, .ofNat 0))), (78, (0, .ofNat 4), .inr (false, (3, .ofNat 0))), (78, (0, .ofNat 5), .inr (false, (1, .ofNat 0)))], [])], [], 0, 0)
def cu1937 : List sxCu := []
set_option maxRecDepth 1000000 in
theorem cv1937 {gh : sxGh} (hg : sxGd sxKw gh) : sxCtV sxKw gh ct1937 := sxMeB_ok (cts := [ct1934]) (cuts := cu1937) (sp := []) 179 (by decide +kernel) hg (by decide) (by decide) (List.forall_mem_cons.mpr ⟨cv1934 hg, (fun _ h => absurd h List.not_mem_nil)⟩)
/-- LotBeliefsModel.wordHere -/
def ct1938 : sxCt := (205, 2, (4, [(1, .ofNat 0, .ofNat 600), (2, .ofNat 0, .ofNat 600), (3, .ofNat 0, .ofNat 255)], [], [(0, .inl 78)], [], [(78, (0, .ofNat 2), .inr (false, (1, .ofNat 0))), (78, (0, .ofNat 4), .inr (false, (2, .ofNat 0))), (79, (2, .ofNat 0), .inr (false, (3, .ofNat 0)))], []), [(78, 5), (579, 5)], [
  (5, [(1, .ofNat 0, .ofNat 600), (2, .ofNat 0, .ofNat 600), (3, .ofNat 0, .ofNat 255), (4, .ofNat 0, .ofNat 600)], [(2, 4, .ofNat 0)], [], [.inr (false, (0, .ofNat 0))], [(78, (0, .ofNat 2), .inr (false, (1, .ofNat 0))), (78, (0, .ofNat 4), .inr (false, (4, .ofNat 0)))], []), 
  (7, [(1, .ofNat 1, .ofNat 600), (2, .ofNat 0, .ofNat 599), (3, .ofNat 0, .ofNat 255), (4, .ofNat 1, .ofNat 387420488), (5, .ofNat 0, .ofNat 599), (6, .ofNat 97, .ofNat 122)], [(2, 5, .ofNat 0), (5, 1, .negSucc 0), (6, 4, .ofNat 96)], [], [.inr (false, (4, .ofNat 0))], [(78, (0, .ofNat 2), .inr (false, (1, .ofNat 0))), (78, (0, .ofNat 4), .inr (false, (5, .ofNat 0))), (79, (5, .ofNat 0), .inr (false, (6, .ofNat 0)))], []), 
  (6, [(1, .ofNat 7, .ofNat 600), (2, .ofNat 0, .ofNat 593), (3, .ofNat 0, .ofNat 255), (4, .ofNat 0, .ofNat 593), (5, .ofNat 97, .ofNat 122)], [(2, 4, .ofNat 0), (4, 1, .negSucc 6)], [], [.inr (false, (0, .negSucc 0))], [(78, (0, .ofNat 2), .inr (false, (1, .ofNat 0))), (78, (0, .ofNat 4), .inr (false, (4, .ofNat 0))), (79, (4, .ofNat 0), .inr (false, (5, .ofNat 0)))], [])], [], 0, 0)
def cu1938 : List sxCu := [
  (53, (8, [(1, .ofNat 7, .ofNat 600), (2, .ofNat 0, .ofNat 593), (3, .ofNat 0, .ofNat 255), (4, .ofNat 14900788, .ofNat 387420488), (5, .ofNat 6, .ofNat 600), (6, .ofNat 0, .ofNat 593), (7, .ofNat 97, .ofNat 122)], [(2, 6, .ofNat 0), (6, 1, .negSucc 6)], [(0, .inl 78), (1, .inr (false, (4, .ofNat 0))), (2, .inr (false, (5, .ofNat 0)))], [], [(78, (0, .ofNat 2), .inr (false, (1, .ofNat 0))), (78, (0, .ofNat 4), .inr (false, (6, .ofNat 0))), (78, (0, .ofNat 9), .inl 79), (79, (6, .ofNat 0), .inr (false, (7, .ofNat 0)))], []), ((0, 5, .ofNat 600), (0, 0, .ofNat 0), (0, 0, .ofNat 0)), 0, 0)]
set_option maxRecDepth 1000000 in
theorem cv1938 {gh : sxGh} (hg : sxGd sxKw gh) : sxCtV sxKw gh ct1938 := sxMeB_ok (cts := [ct1933]) (cuts := cu1938) (sp := []) 716 (by decide +kernel) hg (by decide) (by decide) (List.forall_mem_cons.mpr ⟨cv1933 hg, (fun _ h => absurd h List.not_mem_nil)⟩)
/-- LotBeliefsModel.isWord -/
def ct1939 : sxCt := (207, 3, (5, [(1, .ofNat 0, .ofNat 4), (2, .ofNat 0, .ofNat 600), (3, .ofNat 0, .ofNat 600), (4, .ofNat 0, .ofNat 255)], [], [(0, .inl 78), (1, .inr (false, (0, .ofNat 9))), (2, .inr (false, (0, .ofNat 6))), (3, .inr (false, (0, .ofNat 0))), (4, .inr (false, (0, .ofNat 0))), (5, .inr (false, (0, .ofNat 0))), (6, .inr (false, (0, .ofNat 0)))], [], [(78, (0, .ofNat 5), .inr (false, (1, .ofNat 0))), (78, (0, .ofNat 2), .inr (false, (2, .ofNat 0))), (78, (0, .ofNat 4), .inr (false, (3, .ofNat 0))), (79, (3, .ofNat 0), .inr (false, (4, .ofNat 0)))], []), [(78, 5), (579, 5)], [
  (6, [(1, .ofNat 0, .ofNat 0), (2, .ofNat 0, .ofNat 600), (3, .ofNat 0, .ofNat 600), (4, .ofNat 0, .ofNat 255), (5, .ofNat 0, .ofNat 600)], [(3, 5, .ofNat 0)], [], [.inr (false, (0, .ofNat 0))], [(78, (0, .ofNat 2), .inr (false, (2, .ofNat 0))), (78, (0, .ofNat 4), .inr (false, (5, .ofNat 0))), (78, (0, .ofNat 5), .inr (false, (1, .ofNat 0)))], []), 
  (7, [(1, .ofNat 0, .ofNat 0), (2, .ofNat 1, .ofNat 600), (3, .ofNat 0, .ofNat 599), (4, .ofNat 0, .ofNat 255), (5, .ofNat 0, .ofNat 599), (6, .ofNat 97, .ofNat 122)], [(3, 5, .ofNat 0), (5, 2, .negSucc 0)], [], [.inr (false, (0, .ofNat 1))], [(78, (0, .ofNat 2), .inr (false, (2, .ofNat 0))), (78, (0, .ofNat 4), .inr (false, (5, .ofNat 0))), (78, (0, .ofNat 5), .inr (false, (1, .ofNat 0))), (79, (5, .ofNat 0), .inr (false, (6, .ofNat 0)))], []), 
  (5, [(1, .ofNat 1, .ofNat 4), (2, .ofNat 0, .ofNat 600), (3, .ofNat 0, .ofNat 600), (4, .ofNat 0, .ofNat 255)], [], [], [.inr (false, (0, .ofNat 0))], [(78, (0, .ofNat 2), .inr (false, (2, .ofNat 0))), (78, (0, .ofNat 4), .inr (false, (3, .ofNat 0))), (78, (0, .ofNat 5), .inr (false, (1, .ofNat 0))), (79, (3, .ofNat 0), .inr (false, (4, .ofNat 0)))], [])], [], 0, 0)
def cu1939 : List sxCu := []
set_option maxRecDepth 1000000 in
theorem cv1939 {gh : sxGh} (hg : sxGd sxKw gh) : sxCtV sxKw gh ct1939 := sxMeB_ok (cts := [ct1938]) (cuts := cu1939) (sp := []) 179 (by decide +kernel) hg (by decide) (by decide) (List.forall_mem_cons.mpr ⟨cv1938 hg, (fun _ h => absurd h List.not_mem_nil)⟩)
/-- LotBeliefsModel.atomOf -/
def ct1940 : sxCt := (215, 0, (2, [(1, .ofNat 0, .ofNat 5)], [], [(0, .inr (false, (1, .ofNat 0))), (1, .inr (false, (0, .ofNat 6)))], [], [], []), [], [
  (3, [(1, .ofNat 0, .ofNat 5), (2, .negSucc 9223372036854775807, .ofNat 9223372036854775807)], [], [], [.inr (true, (2, .ofNat 0))], [], [])], [], 0, 0)
def cu1940 : List sxCu := []
set_option maxRecDepth 1000000 in
theorem cv1940 {gh : sxGh} (hg : sxGd sxKw gh) : sxCtV sxKw gh ct1940 := sxMeB_ok (cts := []) (cuts := cu1940) (sp := []) 1223 (by decide +kernel) hg (by decide) (by decide) (fun _ h => absurd h List.not_mem_nil)
/-- LotBeliefsModel.atomOf -/
def ct1941 : sxCt := (215, 0, (3, [(1, .ofNat 0, .ofNat 4), (2, .ofNat 0, .ofNat 5)], [], [(0, .inr (false, (1, .ofNat 0))), (1, .inr (false, (2, .ofNat 0)))], [], [], []), [], [
  (4, [(1, .ofNat 0, .ofNat 4), (2, .ofNat 0, .ofNat 5), (3, .ofNat 0, .ofNat 4294967295)], [], [], [.inr (true, (3, .ofNat 0))], [], [])], [], 0, 0)
def cu1941 : List sxCu := []
set_option maxRecDepth 1000000 in
theorem cv1941 {gh : sxGh} (hg : sxGd sxKw gh) : sxCtV sxKw gh ct1941 := sxMeB_ok (cts := []) (cuts := cu1941) (sp := []) 709 (by decide +kernel) hg (by decide) (by decide) (fun _ h => absurd h List.not_mem_nil)
/-- LotBeliefsModel.oneOf -/
def ct1942 : sxCt := (218, 4, (3, [(1, .ofNat 0, .ofNat 4), (2, .ofNat 0, .ofNat 600)], [], [(0, .inl 78)], [], [(78, (0, .ofNat 8), .inr (false, (0, .ofNat 6))), (78, (0, .ofNat 5), .inr (false, (1, .ofNat 0))), (78, (0, .ofNat 4), .inr (false, (2, .ofNat 0)))], []), [(78, 5), (78, 6), (78, 7), (579, 5)], [
  (5, [(1, .ofNat 0, .ofNat 4), (2, .ofNat 0, .ofNat 600), (3, .ofNat 0, .ofNat 600), (4, .ofNat 1, .ofNat 4)], [(1, 4, .ofNat 0), (2, 3, .ofNat 0), (4, 1, .ofNat 3)], [], [.inr (true, (0, .ofNat 0))], [(78, (0, .ofNat 4), .inr (false, (3, .ofNat 0))), (78, (0, .ofNat 5), .inr (false, (4, .ofNat 0))), (78, (0, .ofNat 8), .inr (false, (0, .ofNat 6)))], []), 
  (5, [(1, .ofNat 0, .ofNat 0), (2, .ofNat 0, .ofNat 599), (3, .negSucc 9223372036854775807, .ofNat 9223372036854775807), (4, .ofNat 1, .ofNat 600)], [(2, 4, .negSucc 0)], [], [.inr (true, (3, .ofNat 0))], [(78, (0, .ofNat 4), .inr (false, (4, .ofNat 0))), (78, (0, .ofNat 5), .inr (false, (0, .ofNat 0))), (78, (0, .ofNat 8), .inr (false, (0, .ofNat 6)))], [])], [], 0, 0)
def cu1942 : List sxCu := []
set_option maxRecDepth 1000000 in
theorem cv1942 {gh : sxGh} (hg : sxGd sxKw gh) : sxCtV sxKw gh ct1942 := sxMeB_ok (cts := [ct1933, ct1937, ct1935, ct1939, ct1940, ct1941]) (cuts := cu1942) (sp := []) 1119 (by decide +kernel) hg (by decide) (by decide) (List.forall_mem_cons.mpr ⟨cv1933 hg, (List.forall_mem_cons.mpr ⟨cv1937 hg, (List.forall_mem_cons.mpr ⟨cv1935 hg, (List.forall_mem_cons.mpr ⟨cv1939 hg, (List.forall_mem_cons.mpr ⟨cv1940 hg, (List.forall_mem_cons.mpr ⟨cv1941 hg, (fun _ h => absurd h List.not_mem_nil)⟩)⟩)⟩)⟩)⟩)⟩)
/-- LotBeliefsModel.isWord -/
def ct1943 : sxCt := (207, 3, (4, [(1, .ofNat 0, .ofNat 4), (2, .ofNat 0, .ofNat 600), (3, .ofNat 0, .ofNat 600)], [], [(0, .inl 78), (1, .inr (false, (0, .ofNat 1))), (2, .inr (false, (0, .ofNat 14))), (3, .inr (false, (0, .ofNat 4))), (4, .inr (false, (0, .ofNat 0))), (5, .inr (false, (0, .ofNat 0))), (6, .inr (false, (0, .ofNat 0)))], [], [(78, (0, .ofNat 5), .inr (false, (1, .ofNat 0))), (78, (0, .ofNat 2), .inr (false, (2, .ofNat 0))), (78, (0, .ofNat 4), .inr (false, (3, .ofNat 0)))], []), [(78, 5), (579, 5)], [
  (5, [(1, .ofNat 0, .ofNat 0), (2, .ofNat 0, .ofNat 600), (3, .ofNat 0, .ofNat 600), (4, .ofNat 0, .ofNat 600)], [(3, 4, .ofNat 0)], [], [.inr (false, (0, .ofNat 0))], [(78, (0, .ofNat 2), .inr (false, (2, .ofNat 0))), (78, (0, .ofNat 4), .inr (false, (4, .ofNat 0))), (78, (0, .ofNat 5), .inr (false, (1, .ofNat 0)))], []), 
  (6, [(1, .ofNat 0, .ofNat 0), (2, .ofNat 1, .ofNat 600), (3, .ofNat 0, .ofNat 599), (4, .ofNat 0, .ofNat 599), (5, .ofNat 97, .ofNat 122)], [(3, 4, .ofNat 0), (4, 2, .negSucc 0)], [], [.inr (false, (0, .ofNat 1))], [(78, (0, .ofNat 2), .inr (false, (2, .ofNat 0))), (78, (0, .ofNat 4), .inr (false, (4, .ofNat 0))), (78, (0, .ofNat 5), .inr (false, (1, .ofNat 0))), (79, (4, .ofNat 0), .inr (false, (5, .ofNat 0)))], []), 
  (4, [(1, .ofNat 1, .ofNat 4), (2, .ofNat 0, .ofNat 600), (3, .ofNat 0, .ofNat 600)], [], [], [.inr (false, (0, .ofNat 0))], [(78, (0, .ofNat 2), .inr (false, (2, .ofNat 0))), (78, (0, .ofNat 4), .inr (false, (3, .ofNat 0))), (78, (0, .ofNat 5), .inr (false, (1, .ofNat 0)))], [])], [], 0, 0)
def cu1943 : List sxCu := []
set_option maxRecDepth 1000000 in
theorem cv1943 {gh : sxGh} (hg : sxGd sxKw gh) : sxCtV sxKw gh ct1943 := sxMeB_ok (cts := [ct1934]) (cuts := cu1943) (sp := []) 188 (by decide +kernel) hg (by decide) (by decide) (List.forall_mem_cons.mpr ⟨cv1934 hg, (fun _ h => absurd h List.not_mem_nil)⟩)
/-- LotBeliefsModel.takes -/
def ct1944 : sxCt := (209, 4, (4, [(1, .ofNat 0, .ofNat 4), (2, .ofNat 0, .ofNat 600), (3, .ofNat 0, .ofNat 600)], [], [(0, .inl 78), (1, .inr (false, (0, .ofNat 1))), (2, .inr (false, (0, .ofNat 14))), (3, .inr (false, (0, .ofNat 4))), (4, .inr (false, (0, .ofNat 0))), (5, .inr (false, (0, .ofNat 0))), (6, .inr (false, (0, .ofNat 0)))], [], [(78, (0, .ofNat 5), .inr (false, (1, .ofNat 0))), (78, (0, .ofNat 2), .inr (false, (2, .ofNat 0))), (78, (0, .ofNat 4), .inr (false, (3, .ofNat 0)))], []), [(78, 5), (579, 5)], [
  (4, [(1, .ofNat 1, .ofNat 4), (2, .ofNat 0, .ofNat 600), (3, .ofNat 0, .ofNat 600)], [], [], [.inr (false, (0, .ofNat 0))], [(78, (0, .ofNat 2), .inr (false, (2, .ofNat 0))), (78, (0, .ofNat 4), .inr (false, (3, .ofNat 0))), (78, (0, .ofNat 5), .inr (false, (1, .ofNat 0)))], []), 
  (5, [(1, .ofNat 0, .ofNat 0), (2, .ofNat 1, .ofNat 600), (3, .ofNat 0, .ofNat 599), (4, .ofNat 1, .ofNat 600)], [(3, 4, .negSucc 0), (4, 2, .ofNat 0)], [], [.inr (false, (0, .ofNat 1))], [(78, (0, .ofNat 2), .inr (false, (2, .ofNat 0))), (78, (0, .ofNat 4), .inr (false, (4, .ofNat 0))), (78, (0, .ofNat 5), .inr (false, (1, .ofNat 0)))], []), 
  (5, [(1, .ofNat 0, .ofNat 0), (2, .ofNat 0, .ofNat 600), (3, .ofNat 0, .ofNat 600), (4, .ofNat 0, .ofNat 600)], [(3, 4, .ofNat 0)], [], [.inr (false, (0, .ofNat 0))], [(78, (0, .ofNat 2), .inr (false, (2, .ofNat 0))), (78, (0, .ofNat 4), .inr (false, (4, .ofNat 0))), (78, (0, .ofNat 5), .inr (false, (1, .ofNat 0)))], [])], [], 0, 0)
def cu1944 : List sxCu := []
set_option maxRecDepth 1000000 in
theorem cv1944 {gh : sxGh} (hg : sxGd sxKw gh) : sxCtV sxKw gh ct1944 := sxMeB_ok (cts := [ct1943, ct1936]) (cuts := cu1944) (sp := []) 87 (by decide +kernel) hg (by decide) (by decide) (List.forall_mem_cons.mpr ⟨cv1943 hg, (List.forall_mem_cons.mpr ⟨cv1936 hg, (fun _ h => absurd h List.not_mem_nil)⟩)⟩)
/-- LotBeliefsModel.eachOf -/
def ct1945 : sxCt := (217, 5, (3, [(1, .ofNat 0, .ofNat 4), (2, .ofNat 0, .ofNat 600)], [], [(0, .inl 78)], [], [(78, (0, .ofNat 8), .inr (false, (0, .ofNat 6))), (78, (0, .ofNat 5), .inr (false, (1, .ofNat 0))), (78, (0, .ofNat 4), .inr (false, (2, .ofNat 0)))], []), [(78, 5), (78, 6), (78, 7), (579, 5)], [
  (5, [(1, .ofNat 0, .ofNat 0), (2, .ofNat 0, .ofNat 599), (3, .negSucc 9223372036854775807, .ofNat 9223372036854775807), (4, .ofNat 1, .ofNat 600)], [(2, 4, .negSucc 0)], [], [.inr (true, (3, .ofNat 0))], [(78, (0, .ofNat 4), .inr (false, (4, .ofNat 0))), (78, (0, .ofNat 5), .inr (false, (0, .ofNat 0))), (78, (0, .ofNat 8), .inr (false, (0, .ofNat 6)))], []), 
  (5, [(1, .ofNat 0, .ofNat 4), (2, .ofNat 0, .ofNat 600), (3, .ofNat 0, .ofNat 600), (4, .ofNat 1, .ofNat 4)], [(1, 4, .ofNat 0), (2, 3, .ofNat 0), (4, 1, .ofNat 3)], [], [.inr (true, (0, .ofNat 0))], [(78, (0, .ofNat 4), .inr (false, (3, .ofNat 0))), (78, (0, .ofNat 5), .inr (false, (4, .ofNat 0))), (78, (0, .ofNat 8), .inr (false, (0, .ofNat 6)))], [])], [], 0, 0)
def cu1945 : List sxCu := [
  (5, (5, [(1, .ofNat 0, .ofNat 4), (2, .ofNat 0, .ofNat 600), (3, .ofNat 0, .ofNat 600), (4, .ofNat 1, .ofNat 4)], [(1, 4, .ofNat 0), (2, 3, .ofNat 0), (4, 1, .ofNat 3)], [(0, .inl 78), (1, .inr (true, (0, .ofNat 0)))], [], [(78, (0, .ofNat 4), .inr (false, (3, .ofNat 0))), (78, (0, .ofNat 5), .inr (false, (4, .ofNat 0))), (78, (0, .ofNat 8), .inr (false, (0, .ofNat 6)))], []), ((0, 3, .ofNat 600), (0, 0, .ofNat 0), (0, 0, .ofNat 0)), 0, 0), 
  (5, (5, [(1, .ofNat 0, .ofNat 0), (2, .ofNat 0, .ofNat 599), (3, .negSucc 9223372036854775807, .ofNat 9223372036854775807), (4, .ofNat 1, .ofNat 600)], [(2, 4, .negSucc 0)], [(0, .inl 78), (1, .inr (true, (3, .ofNat 0)))], [], [(78, (0, .ofNat 4), .inr (false, (4, .ofNat 0))), (78, (0, .ofNat 5), .inr (false, (0, .ofNat 0))), (78, (0, .ofNat 8), .inr (false, (0, .ofNat 6)))], []), ((0, 4, .ofNat 600), (0, 0, .ofNat 0), (0, 0, .ofNat 0)), 0, 0)]
set_option maxRecDepth 1000000 in
theorem cv1945 {gh : sxGh} (hg : sxGd sxKw gh) : sxCtV sxKw gh ct1945 := sxMeB_ok (cts := [ct1944, ct1942]) (cuts := cu1945) (sp := []) 100 (by decide +kernel) hg (by decide) (by decide) (List.forall_mem_cons.mpr ⟨cv1944 hg, (List.forall_mem_cons.mpr ⟨cv1942 hg, (fun _ h => absurd h List.not_mem_nil)⟩)⟩)
/-- LotBeliefsModel.isWord -/
def ct1946 : sxCt := (207, 3, (4, [(1, .ofNat 0, .ofNat 4), (2, .ofNat 0, .ofNat 600), (3, .ofNat 0, .ofNat 600)], [], [(0, .inl 78), (1, .inr (false, (0, .ofNat 15))), (2, .inr (false, (0, .ofNat 18))), (3, .inr (false, (0, .ofNat 0))), (4, .inr (false, (0, .ofNat 0))), (5, .inr (false, (0, .ofNat 0))), (6, .inr (false, (0, .ofNat 0)))], [], [(78, (0, .ofNat 5), .inr (false, (1, .ofNat 0))), (78, (0, .ofNat 2), .inr (false, (2, .ofNat 0))), (78, (0, .ofNat 4), .inr (false, (3, .ofNat 0)))], []), [(78, 5), (579, 5)], [
  (5, [(1, .ofNat 0, .ofNat 0), (2, .ofNat 0, .ofNat 600), (3, .ofNat 0, .ofNat 600), (4, .ofNat 0, .ofNat 600)], [(3, 4, .ofNat 0)], [], [.inr (false, (0, .ofNat 0))], [(78, (0, .ofNat 2), .inr (false, (2, .ofNat 0))), (78, (0, .ofNat 4), .inr (false, (4, .ofNat 0))), (78, (0, .ofNat 5), .inr (false, (1, .ofNat 0)))], []), 
  (6, [(1, .ofNat 0, .ofNat 0), (2, .ofNat 1, .ofNat 600), (3, .ofNat 0, .ofNat 599), (4, .ofNat 0, .ofNat 599), (5, .ofNat 97, .ofNat 122)], [(3, 4, .ofNat 0), (4, 2, .negSucc 0)], [], [.inr (false, (0, .ofNat 1))], [(78, (0, .ofNat 2), .inr (false, (2, .ofNat 0))), (78, (0, .ofNat 4), .inr (false, (4, .ofNat 0))), (78, (0, .ofNat 5), .inr (false, (1, .ofNat 0))), (79, (4, .ofNat 0), .inr (false, (5, .ofNat 0)))], []), 
  (4, [(1, .ofNat 1, .ofNat 4), (2, .ofNat 0, .ofNat 600), (3, .ofNat 0, .ofNat 600)], [], [], [.inr (false, (0, .ofNat 0))], [(78, (0, .ofNat 2), .inr (false, (2, .ofNat 0))), (78, (0, .ofNat 4), .inr (false, (3, .ofNat 0))), (78, (0, .ofNat 5), .inr (false, (1, .ofNat 0)))], [])], [], 0, 0)
def cu1946 : List sxCu := []
set_option maxRecDepth 1000000 in
theorem cv1946 {gh : sxGh} (hg : sxGd sxKw gh) : sxCtV sxKw gh ct1946 := sxMeB_ok (cts := [ct1934]) (cuts := cu1946) (sp := []) 179 (by decide +kernel) hg (by decide) (by decide) (List.forall_mem_cons.mpr ⟨cv1934 hg, (fun _ h => absurd h List.not_mem_nil)⟩)
/-- LotBeliefsModel.takes -/
def ct1947 : sxCt := (209, 4, (4, [(1, .ofNat 0, .ofNat 4), (2, .ofNat 0, .ofNat 600), (3, .ofNat 0, .ofNat 600)], [], [(0, .inl 78), (1, .inr (false, (0, .ofNat 15))), (2, .inr (false, (0, .ofNat 18))), (3, .inr (false, (0, .ofNat 0))), (4, .inr (false, (0, .ofNat 0))), (5, .inr (false, (0, .ofNat 0))), (6, .inr (false, (0, .ofNat 0)))], [], [(78, (0, .ofNat 5), .inr (false, (1, .ofNat 0))), (78, (0, .ofNat 2), .inr (false, (2, .ofNat 0))), (78, (0, .ofNat 4), .inr (false, (3, .ofNat 0)))], []), [(78, 5), (579, 5)], [
  (4, [(1, .ofNat 1, .ofNat 4), (2, .ofNat 0, .ofNat 600), (3, .ofNat 0, .ofNat 600)], [], [], [.inr (false, (0, .ofNat 0))], [(78, (0, .ofNat 2), .inr (false, (2, .ofNat 0))), (78, (0, .ofNat 4), .inr (false, (3, .ofNat 0))), (78, (0, .ofNat 5), .inr (false, (1, .ofNat 0)))], []), 
  (5, [(1, .ofNat 0, .ofNat 0), (2, .ofNat 1, .ofNat 600), (3, .ofNat 0, .ofNat 599), (4, .ofNat 1, .ofNat 600)], [(3, 4, .negSucc 0), (4, 2, .ofNat 0)], [], [.inr (false, (0, .ofNat 1))], [(78, (0, .ofNat 2), .inr (false, (2, .ofNat 0))), (78, (0, .ofNat 4), .inr (false, (4, .ofNat 0))), (78, (0, .ofNat 5), .inr (false, (1, .ofNat 0)))], []), 
  (5, [(1, .ofNat 0, .ofNat 0), (2, .ofNat 0, .ofNat 600), (3, .ofNat 0, .ofNat 600), (4, .ofNat 0, .ofNat 600)], [(3, 4, .ofNat 0)], [], [.inr (false, (0, .ofNat 0))], [(78, (0, .ofNat 2), .inr (false, (2, .ofNat 0))), (78, (0, .ofNat 4), .inr (false, (4, .ofNat 0))), (78, (0, .ofNat 5), .inr (false, (1, .ofNat 0)))], [])], [], 0, 0)
def cu1947 : List sxCu := []
set_option maxRecDepth 1000000 in
theorem cv1947 {gh : sxGh} (hg : sxGd sxKw gh) : sxCtV sxKw gh ct1947 := sxMeB_ok (cts := [ct1946, ct1936]) (cuts := cu1947) (sp := []) 87 (by decide +kernel) hg (by decide) (by decide) (List.forall_mem_cons.mpr ⟨cv1946 hg, (List.forall_mem_cons.mpr ⟨cv1936 hg, (fun _ h => absurd h List.not_mem_nil)⟩)⟩)
/-- LotBeliefsModel.anyOf -/
def ct1948 : sxCt := (216, 6, (3, [(1, .ofNat 0, .ofNat 4), (2, .ofNat 0, .ofNat 600)], [], [(0, .inl 78)], [], [(78, (0, .ofNat 8), .inr (false, (0, .ofNat 6))), (78, (0, .ofNat 5), .inr (false, (1, .ofNat 0))), (78, (0, .ofNat 4), .inr (false, (2, .ofNat 0)))], []), [(78, 5), (78, 6), (78, 7), (579, 5)], [
  (6, [(1, .ofNat 0, .ofNat 4), (2, .ofNat 0, .ofNat 600), (3, .negSucc 9223372036854775807, .ofNat 9223372036854775807), (4, .ofNat 0, .ofNat 600), (5, .ofNat 1, .ofNat 4)], [(1, 5, .ofNat 0), (2, 4, .ofNat 0), (5, 1, .ofNat 3)], [], [.inr (true, (3, .ofNat 0))], [(78, (0, .ofNat 4), .inr (false, (4, .ofNat 0))), (78, (0, .ofNat 5), .inr (false, (5, .ofNat 0))), (78, (0, .ofNat 8), .inr (false, (0, .ofNat 6)))], []), 
  (5, [(1, .ofNat 0, .ofNat 0), (2, .ofNat 0, .ofNat 599), (3, .negSucc 9223372036854775807, .ofNat 9223372036854775807), (4, .ofNat 1, .ofNat 600)], [(2, 4, .negSucc 0)], [], [.inr (true, (3, .ofNat 0))], [(78, (0, .ofNat 4), .inr (false, (4, .ofNat 0))), (78, (0, .ofNat 5), .inr (false, (0, .ofNat 0))), (78, (0, .ofNat 8), .inr (false, (0, .ofNat 6)))], [])], [], 0, 0)
def cu1948 : List sxCu := [
  (5, (6, [(1, .ofNat 0, .ofNat 4), (2, .ofNat 0, .ofNat 600), (3, .negSucc 9223372036854775807, .ofNat 9223372036854775807), (4, .ofNat 0, .ofNat 600), (5, .ofNat 1, .ofNat 4)], [(1, 5, .ofNat 0), (2, 4, .ofNat 0), (5, 1, .ofNat 3)], [(0, .inl 78), (1, .inr (true, (3, .ofNat 0)))], [], [(78, (0, .ofNat 4), .inr (false, (4, .ofNat 0))), (78, (0, .ofNat 5), .inr (false, (5, .ofNat 0))), (78, (0, .ofNat 8), .inr (false, (0, .ofNat 6)))], []), ((0, 4, .ofNat 600), (0, 0, .ofNat 0), (0, 0, .ofNat 0)), 0, 0), 
  (5, (5, [(1, .ofNat 0, .ofNat 0), (2, .ofNat 0, .ofNat 599), (3, .negSucc 9223372036854775807, .ofNat 9223372036854775807), (4, .ofNat 1, .ofNat 600)], [(2, 4, .negSucc 0)], [(0, .inl 78), (1, .inr (true, (3, .ofNat 0)))], [], [(78, (0, .ofNat 4), .inr (false, (4, .ofNat 0))), (78, (0, .ofNat 5), .inr (false, (0, .ofNat 0))), (78, (0, .ofNat 8), .inr (false, (0, .ofNat 6)))], []), ((0, 4, .ofNat 600), (0, 0, .ofNat 0), (0, 0, .ofNat 0)), 0, 0)]
set_option maxRecDepth 1000000 in
theorem cv1948 {gh : sxGh} (hg : sxGd sxKw gh) : sxCtV sxKw gh ct1948 := sxMeB_ok (cts := [ct1947, ct1945]) (cuts := cu1948) (sp := []) 100 (by decide +kernel) hg (by decide) (by decide) (List.forall_mem_cons.mpr ⟨cv1947 hg, (List.forall_mem_cons.mpr ⟨cv1945 hg, (fun _ h => absurd h List.not_mem_nil)⟩)⟩)
/-- LotBeliefsModel.isWord -/
def ct1949 : sxCt := (207, 3, (4, [(1, .ofNat 0, .ofNat 4), (2, .ofNat 0, .ofNat 600), (3, .ofNat 0, .ofNat 600)], [], [(0, .inl 78), (1, .inr (false, (0, .ofNat 20))), (2, .inr (false, (0, .ofNat 8))), (3, .inr (false, (0, .ofNat 5))), (4, .inr (false, (0, .ofNat 14))), (5, .inr (false, (0, .ofNat 0))), (6, .inr (false, (0, .ofNat 0)))], [], [(78, (0, .ofNat 5), .inr (false, (1, .ofNat 0))), (78, (0, .ofNat 2), .inr (false, (2, .ofNat 0))), (78, (0, .ofNat 4), .inr (false, (3, .ofNat 0)))], []), [(78, 5), (579, 5)], [
  (5, [(1, .ofNat 0, .ofNat 0), (2, .ofNat 0, .ofNat 600), (3, .ofNat 0, .ofNat 600), (4, .ofNat 0, .ofNat 600)], [(3, 4, .ofNat 0)], [], [.inr (false, (0, .ofNat 0))], [(78, (0, .ofNat 2), .inr (false, (2, .ofNat 0))), (78, (0, .ofNat 4), .inr (false, (4, .ofNat 0))), (78, (0, .ofNat 5), .inr (false, (1, .ofNat 0)))], []), 
  (6, [(1, .ofNat 0, .ofNat 0), (2, .ofNat 1, .ofNat 600), (3, .ofNat 0, .ofNat 599), (4, .ofNat 0, .ofNat 599), (5, .ofNat 97, .ofNat 122)], [(3, 4, .ofNat 0), (4, 2, .negSucc 0)], [], [.inr (false, (0, .ofNat 1))], [(78, (0, .ofNat 2), .inr (false, (2, .ofNat 0))), (78, (0, .ofNat 4), .inr (false, (4, .ofNat 0))), (78, (0, .ofNat 5), .inr (false, (1, .ofNat 0))), (79, (4, .ofNat 0), .inr (false, (5, .ofNat 0)))], []), 
  (4, [(1, .ofNat 1, .ofNat 4), (2, .ofNat 0, .ofNat 600), (3, .ofNat 0, .ofNat 600)], [], [], [.inr (false, (0, .ofNat 0))], [(78, (0, .ofNat 2), .inr (false, (2, .ofNat 0))), (78, (0, .ofNat 4), .inr (false, (3, .ofNat 0))), (78, (0, .ofNat 5), .inr (false, (1, .ofNat 0)))], [])], [], 0, 0)
def cu1949 : List sxCu := []
set_option maxRecDepth 1000000 in
theorem cv1949 {gh : sxGh} (hg : sxGd sxKw gh) : sxCtV sxKw gh ct1949 := sxMeB_ok (cts := [ct1934]) (cuts := cu1949) (sp := []) 197 (by decide +kernel) hg (by decide) (by decide) (List.forall_mem_cons.mpr ⟨cv1934 hg, (fun _ h => absurd h List.not_mem_nil)⟩)
/-- LotBeliefsModel.takes -/
def ct1950 : sxCt := (209, 4, (4, [(1, .ofNat 0, .ofNat 4), (2, .ofNat 0, .ofNat 600), (3, .ofNat 0, .ofNat 600)], [], [(0, .inl 78), (1, .inr (false, (0, .ofNat 20))), (2, .inr (false, (0, .ofNat 8))), (3, .inr (false, (0, .ofNat 5))), (4, .inr (false, (0, .ofNat 14))), (5, .inr (false, (0, .ofNat 0))), (6, .inr (false, (0, .ofNat 0)))], [], [(78, (0, .ofNat 5), .inr (false, (1, .ofNat 0))), (78, (0, .ofNat 2), .inr (false, (2, .ofNat 0))), (78, (0, .ofNat 4), .inr (false, (3, .ofNat 0)))], []), [(78, 5), (579, 5)], [
  (4, [(1, .ofNat 1, .ofNat 4), (2, .ofNat 0, .ofNat 600), (3, .ofNat 0, .ofNat 600)], [], [], [.inr (false, (0, .ofNat 0))], [(78, (0, .ofNat 2), .inr (false, (2, .ofNat 0))), (78, (0, .ofNat 4), .inr (false, (3, .ofNat 0))), (78, (0, .ofNat 5), .inr (false, (1, .ofNat 0)))], []), 
  (5, [(1, .ofNat 0, .ofNat 0), (2, .ofNat 1, .ofNat 600), (3, .ofNat 0, .ofNat 599), (4, .ofNat 1, .ofNat 600)], [(3, 4, .negSucc 0), (4, 2, .ofNat 0)], [], [.inr (false, (0, .ofNat 1))], [(78, (0, .ofNat 2), .inr (false, (2, .ofNat 0))), (78, (0, .ofNat 4), .inr (false, (4, .ofNat 0))), (78, (0, .ofNat 5), .inr (false, (1, .ofNat 0)))], []), 
  (5, [(1, .ofNat 0, .ofNat 0), (2, .ofNat 0, .ofNat 600), (3, .ofNat 0, .ofNat 600), (4, .ofNat 0, .ofNat 600)], [(3, 4, .ofNat 0)], [], [.inr (false, (0, .ofNat 0))], [(78, (0, .ofNat 2), .inr (false, (2, .ofNat 0))), (78, (0, .ofNat 4), .inr (false, (4, .ofNat 0))), (78, (0, .ofNat 5), .inr (false, (1, .ofNat 0)))], [])], [], 0, 0)
def cu1950 : List sxCu := []
set_option maxRecDepth 1000000 in
theorem cv1950 {gh : sxGh} (hg : sxGd sxKw gh) : sxCtV sxKw gh ct1950 := sxMeB_ok (cts := [ct1949, ct1936]) (cuts := cu1950) (sp := []) 87 (by decide +kernel) hg (by decide) (by decide) (List.forall_mem_cons.mpr ⟨cv1949 hg, (List.forall_mem_cons.mpr ⟨cv1936 hg, (fun _ h => absurd h List.not_mem_nil)⟩)⟩)
/-- LotBeliefsModel.oneOf -/
def ct1951 : sxCt := (218, 7, (3, [(1, .ofNat 0, .ofNat 4), (2, .ofNat 0, .ofNat 600)], [], [(0, .inl 78)], [], [(78, (0, .ofNat 8), .inr (false, (0, .ofNat 5))), (78, (0, .ofNat 5), .inr (false, (1, .ofNat 0))), (78, (0, .ofNat 4), .inr (false, (2, .ofNat 0)))], []), [(78, 5), (78, 6), (78, 7), (78, 9), (579, 5)], [
  (6, [(1, .ofNat 0, .ofNat 4), (2, .ofNat 0, .ofNat 600), (3, .negSucc 9223372036854775807, .ofNat 9223372036854775807), (4, .ofNat 0, .ofNat 600), (5, .ofNat 1, .ofNat 4)], [(1, 5, .ofNat 0), (2, 4, .ofNat 0)], [], [.inr (true, (3, .ofNat 0))], [(78, (0, .ofNat 4), .inr (false, (4, .ofNat 0))), (78, (0, .ofNat 5), .inr (false, (5, .ofNat 0))), (78, (0, .ofNat 8), .inr (false, (0, .ofNat 5)))], []), 
  (5, [(1, .ofNat 0, .ofNat 0), (2, .ofNat 0, .ofNat 599), (3, .negSucc 9223372036854775807, .ofNat 9223372036854775807), (4, .ofNat 1, .ofNat 600)], [(2, 4, .negSucc 0)], [], [.inr (true, (3, .ofNat 0))], [(78, (0, .ofNat 4), .inr (false, (4, .ofNat 0))), (78, (0, .ofNat 5), .inr (false, (0, .ofNat 0))), (78, (0, .ofNat 8), .inr (false, (0, .ofNat 5)))], [])], [], 0, 0)
def cu1951 : List sxCu := []
set_option maxRecDepth 1000000 in
theorem cv1951 {gh : sxGh} (hg : sxGd sxKw gh) : sxCtV sxKw gh ct1951 := sxMeB_ok (cts := [ct1933, ct1935, ct1937, ct1939, ct1936, ct1950, ct1940, ct1941, ct1948, ct1942]) (cuts := cu1951) (sp := []) 1605 (by decide +kernel) hg (by decide) (by decide) (List.forall_mem_cons.mpr ⟨cv1933 hg, (List.forall_mem_cons.mpr ⟨cv1935 hg, (List.forall_mem_cons.mpr ⟨cv1937 hg, (List.forall_mem_cons.mpr ⟨cv1939 hg, (List.forall_mem_cons.mpr ⟨cv1936 hg, (List.forall_mem_cons.mpr ⟨cv1950 hg, (List.forall_mem_cons.mpr ⟨cv1940 hg, (List.forall_mem_cons.mpr ⟨cv1941 hg, (List.forall_mem_cons.mpr ⟨cv1948 hg, (List.forall_mem_cons.mpr ⟨cv1942 hg, (fun _ h => absurd h List.not_mem_nil)⟩)⟩)⟩)⟩)⟩)⟩)⟩)⟩)⟩)⟩)
/-- LotBeliefsModel.eachOf -/
def ct1952 : sxCt := (217, 8, (3, [(1, .ofNat 0, .ofNat 4), (2, .ofNat 0, .ofNat 600)], [], [(0, .inl 78)], [], [(78, (0, .ofNat 8), .inr (false, (0, .ofNat 5))), (78, (0, .ofNat 5), .inr (false, (1, .ofNat 0))), (78, (0, .ofNat 4), .inr (false, (2, .ofNat 0)))], []), [(78, 5), (78, 6), (78, 7), (78, 9), (579, 5)], [
  (5, [(1, .ofNat 0, .ofNat 0), (2, .ofNat 0, .ofNat 599), (3, .negSucc 9223372036854775807, .ofNat 9223372036854775807), (4, .ofNat 1, .ofNat 600)], [(2, 4, .negSucc 0)], [], [.inr (true, (3, .ofNat 0))], [(78, (0, .ofNat 4), .inr (false, (4, .ofNat 0))), (78, (0, .ofNat 5), .inr (false, (0, .ofNat 0))), (78, (0, .ofNat 8), .inr (false, (0, .ofNat 5)))], []), 
  (6, [(1, .ofNat 0, .ofNat 4), (2, .ofNat 0, .ofNat 600), (3, .negSucc 9223372036854775807, .ofNat 9223372036854775807), (4, .ofNat 0, .ofNat 600), (5, .ofNat 1, .ofNat 4)], [(1, 5, .ofNat 0), (2, 4, .ofNat 0)], [], [.inr (true, (3, .ofNat 0))], [(78, (0, .ofNat 4), .inr (false, (4, .ofNat 0))), (78, (0, .ofNat 5), .inr (false, (5, .ofNat 0))), (78, (0, .ofNat 8), .inr (false, (0, .ofNat 5)))], [])], [], 0, 0)
def cu1952 : List sxCu := [
  (5, (6, [(1, .ofNat 0, .ofNat 4), (2, .ofNat 0, .ofNat 600), (3, .negSucc 9223372036854775807, .ofNat 9223372036854775807), (4, .ofNat 0, .ofNat 600), (5, .ofNat 1, .ofNat 4)], [(1, 5, .ofNat 0), (2, 4, .ofNat 0)], [(0, .inl 78), (1, .inr (true, (3, .ofNat 0)))], [], [(78, (0, .ofNat 4), .inr (false, (4, .ofNat 0))), (78, (0, .ofNat 5), .inr (false, (5, .ofNat 0))), (78, (0, .ofNat 8), .inr (false, (0, .ofNat 5)))], []), ((0, 4, .ofNat 600), (0, 0, .ofNat 0), (0, 0, .ofNat 0)), 0, 0), 
  (5, (5, [(1, .ofNat 0, .ofNat 0), (2, .ofNat 0, .ofNat 599), (3, .negSucc 9223372036854775807, .ofNat 9223372036854775807), (4, .ofNat 1, .ofNat 600)], [(2, 4, .negSucc 0)], [(0, .inl 78), (1, .inr (true, (3, .ofNat 0)))], [], [(78, (0, .ofNat 4), .inr (false, (4, .ofNat 0))), (78, (0, .ofNat 5), .inr (false, (0, .ofNat 0))), (78, (0, .ofNat 8), .inr (false, (0, .ofNat 5)))], []), ((0, 4, .ofNat 600), (0, 0, .ofNat 0), (0, 0, .ofNat 0)), 0, 0)]
set_option maxRecDepth 1000000 in
theorem cv1952 {gh : sxGh} (hg : sxGd sxKw gh) : sxCtV sxKw gh ct1952 := sxMeB_ok (cts := [ct1944, ct1951]) (cuts := cu1952) (sp := []) 100 (by decide +kernel) hg (by decide) (by decide) (List.forall_mem_cons.mpr ⟨cv1944 hg, (List.forall_mem_cons.mpr ⟨cv1951 hg, (fun _ h => absurd h List.not_mem_nil)⟩)⟩)
/-- LotBeliefsModel.anyOf -/
def ct1953 : sxCt := (216, 9, (3, [(1, .ofNat 0, .ofNat 4), (2, .ofNat 0, .ofNat 600)], [], [(0, .inl 78)], [], [(78, (0, .ofNat 8), .inr (false, (0, .ofNat 5))), (78, (0, .ofNat 5), .inr (false, (1, .ofNat 0))), (78, (0, .ofNat 4), .inr (false, (2, .ofNat 0)))], []), [(78, 5), (78, 6), (78, 7), (78, 9), (579, 5)], [
  (6, [(1, .ofNat 0, .ofNat 4), (2, .ofNat 0, .ofNat 600), (3, .negSucc 9223372036854775807, .ofNat 9223372036854775807), (4, .ofNat 0, .ofNat 600), (5, .ofNat 1, .ofNat 4)], [(1, 5, .ofNat 0), (2, 4, .ofNat 0)], [], [.inr (true, (3, .ofNat 0))], [(78, (0, .ofNat 4), .inr (false, (4, .ofNat 0))), (78, (0, .ofNat 5), .inr (false, (5, .ofNat 0))), (78, (0, .ofNat 8), .inr (false, (0, .ofNat 5)))], []), 
  (5, [(1, .ofNat 0, .ofNat 0), (2, .ofNat 0, .ofNat 599), (3, .negSucc 9223372036854775807, .ofNat 9223372036854775807), (4, .ofNat 1, .ofNat 600)], [(2, 4, .negSucc 0)], [], [.inr (true, (3, .ofNat 0))], [(78, (0, .ofNat 4), .inr (false, (4, .ofNat 0))), (78, (0, .ofNat 5), .inr (false, (0, .ofNat 0))), (78, (0, .ofNat 8), .inr (false, (0, .ofNat 5)))], [])], [], 0, 0)
def cu1953 : List sxCu := [
  (5, (6, [(1, .ofNat 0, .ofNat 4), (2, .ofNat 0, .ofNat 600), (3, .negSucc 9223372036854775807, .ofNat 9223372036854775807), (4, .ofNat 0, .ofNat 600), (5, .ofNat 1, .ofNat 4)], [(1, 5, .ofNat 0), (2, 4, .ofNat 0)], [(0, .inl 78), (1, .inr (true, (3, .ofNat 0)))], [], [(78, (0, .ofNat 4), .inr (false, (4, .ofNat 0))), (78, (0, .ofNat 5), .inr (false, (5, .ofNat 0))), (78, (0, .ofNat 8), .inr (false, (0, .ofNat 5)))], []), ((0, 4, .ofNat 600), (0, 0, .ofNat 0), (0, 0, .ofNat 0)), 0, 0), 
  (5, (5, [(1, .ofNat 0, .ofNat 0), (2, .ofNat 0, .ofNat 599), (3, .negSucc 9223372036854775807, .ofNat 9223372036854775807), (4, .ofNat 1, .ofNat 600)], [(2, 4, .negSucc 0)], [(0, .inl 78), (1, .inr (true, (3, .ofNat 0)))], [], [(78, (0, .ofNat 4), .inr (false, (4, .ofNat 0))), (78, (0, .ofNat 5), .inr (false, (0, .ofNat 0))), (78, (0, .ofNat 8), .inr (false, (0, .ofNat 5)))], []), ((0, 4, .ofNat 600), (0, 0, .ofNat 0), (0, 0, .ofNat 0)), 0, 0)]
set_option maxRecDepth 1000000 in
theorem cv1953 {gh : sxGh} (hg : sxGd sxKw gh) : sxCtV sxKw gh ct1953 := sxMeB_ok (cts := [ct1947, ct1952]) (cuts := cu1953) (sp := []) 100 (by decide +kernel) hg (by decide) (by decide) (List.forall_mem_cons.mpr ⟨cv1947 hg, (List.forall_mem_cons.mpr ⟨cv1952 hg, (fun _ h => absurd h List.not_mem_nil)⟩)⟩)
/-- LotBeliefsModel.oneOf -/
def ct1954 : sxCt := (218, 10, (3, [(1, .ofNat 0, .ofNat 4), (2, .ofNat 0, .ofNat 600)], [], [(0, .inl 78)], [], [(78, (0, .ofNat 8), .inr (false, (0, .ofNat 4))), (78, (0, .ofNat 5), .inr (false, (1, .ofNat 0))), (78, (0, .ofNat 4), .inr (false, (2, .ofNat 0)))], []), [(78, 5), (78, 6), (78, 7), (78, 9), (579, 5)], [
  (6, [(1, .ofNat 0, .ofNat 4), (2, .ofNat 0, .ofNat 600), (3, .negSucc 9223372036854775807, .ofNat 9223372036854775807), (4, .ofNat 0, .ofNat 600), (5, .ofNat 1, .ofNat 4)], [(1, 5, .ofNat 0), (2, 4, .ofNat 0)], [], [.inr (true, (3, .ofNat 0))], [(78, (0, .ofNat 4), .inr (false, (4, .ofNat 0))), (78, (0, .ofNat 5), .inr (false, (5, .ofNat 0))), (78, (0, .ofNat 8), .inr (false, (0, .ofNat 4)))], []), 
  (5, [(1, .ofNat 0, .ofNat 0), (2, .ofNat 0, .ofNat 599), (3, .negSucc 9223372036854775807, .ofNat 9223372036854775807), (4, .ofNat 1, .ofNat 600)], [(2, 4, .negSucc 0)], [], [.inr (true, (3, .ofNat 0))], [(78, (0, .ofNat 4), .inr (false, (4, .ofNat 0))), (78, (0, .ofNat 5), .inr (false, (0, .ofNat 0))), (78, (0, .ofNat 8), .inr (false, (0, .ofNat 4)))], [])], [], 0, 0)
def cu1954 : List sxCu := []
set_option maxRecDepth 1000000 in
theorem cv1954 {gh : sxGh} (hg : sxGd sxKw gh) : sxCtV sxKw gh ct1954 := sxMeB_ok (cts := [ct1933, ct1935, ct1937, ct1939, ct1936, ct1950, ct1940, ct1941, ct1953, ct1951]) (cuts := cu1954) (sp := []) 1605 (by decide +kernel) hg (by decide) (by decide) (List.forall_mem_cons.mpr ⟨cv1933 hg, (List.forall_mem_cons.mpr ⟨cv1935 hg, (List.forall_mem_cons.mpr ⟨cv1937 hg, (List.forall_mem_cons.mpr ⟨cv1939 hg, (List.forall_mem_cons.mpr ⟨cv1936 hg, (List.forall_mem_cons.mpr ⟨cv1950 hg, (List.forall_mem_cons.mpr ⟨cv1940 hg, (List.forall_mem_cons.mpr ⟨cv1941 hg, (List.forall_mem_cons.mpr ⟨cv1953 hg, (List.forall_mem_cons.mpr ⟨cv1951 hg, (fun _ h => absurd h List.not_mem_nil)⟩)⟩)⟩)⟩)⟩)⟩)⟩)⟩)⟩)⟩)
/-- LotBeliefsModel.eachOf -/
def ct1955 : sxCt := (217, 11, (3, [(1, .ofNat 0, .ofNat 4), (2, .ofNat 0, .ofNat 600)], [], [(0, .inl 78)], [], [(78, (0, .ofNat 8), .inr (false, (0, .ofNat 4))), (78, (0, .ofNat 5), .inr (false, (1, .ofNat 0))), (78, (0, .ofNat 4), .inr (false, (2, .ofNat 0)))], []), [(78, 5), (78, 6), (78, 7), (78, 9), (579, 5)], [
  (5, [(1, .ofNat 0, .ofNat 0), (2, .ofNat 0, .ofNat 599), (3, .negSucc 9223372036854775807, .ofNat 9223372036854775807), (4, .ofNat 1, .ofNat 600)], [(2, 4, .negSucc 0)], [], [.inr (true, (3, .ofNat 0))], [(78, (0, .ofNat 4), .inr (false, (4, .ofNat 0))), (78, (0, .ofNat 5), .inr (false, (0, .ofNat 0))), (78, (0, .ofNat 8), .inr (false, (0, .ofNat 4)))], []), 
  (6, [(1, .ofNat 0, .ofNat 4), (2, .ofNat 0, .ofNat 600), (3, .negSucc 9223372036854775807, .ofNat 9223372036854775807), (4, .ofNat 0, .ofNat 600), (5, .ofNat 1, .ofNat 4)], [(1, 5, .ofNat 0), (2, 4, .ofNat 0)], [], [.inr (true, (3, .ofNat 0))], [(78, (0, .ofNat 4), .inr (false, (4, .ofNat 0))), (78, (0, .ofNat 5), .inr (false, (5, .ofNat 0))), (78, (0, .ofNat 8), .inr (false, (0, .ofNat 4)))], [])], [], 0, 0)
def cu1955 : List sxCu := [
  (5, (6, [(1, .ofNat 0, .ofNat 4), (2, .ofNat 0, .ofNat 600), (3, .negSucc 9223372036854775807, .ofNat 9223372036854775807), (4, .ofNat 0, .ofNat 600), (5, .ofNat 1, .ofNat 4)], [(1, 5, .ofNat 0), (2, 4, .ofNat 0)], [(0, .inl 78), (1, .inr (true, (3, .ofNat 0)))], [], [(78, (0, .ofNat 4), .inr (false, (4, .ofNat 0))), (78, (0, .ofNat 5), .inr (false, (5, .ofNat 0))), (78, (0, .ofNat 8), .inr (false, (0, .ofNat 4)))], []), ((0, 4, .ofNat 600), (0, 0, .ofNat 0), (0, 0, .ofNat 0)), 0, 0), 
  (5, (5, [(1, .ofNat 0, .ofNat 0), (2, .ofNat 0, .ofNat 599), (3, .negSucc 9223372036854775807, .ofNat 9223372036854775807), (4, .ofNat 1, .ofNat 600)], [(2, 4, .negSucc 0)], [(0, .inl 78), (1, .inr (true, (3, .ofNat 0)))], [], [(78, (0, .ofNat 4), .inr (false, (4, .ofNat 0))), (78, (0, .ofNat 5), .inr (false, (0, .ofNat 0))), (78, (0, .ofNat 8), .inr (false, (0, .ofNat 4)))], []), ((0, 4, .ofNat 600), (0, 0, .ofNat 0), (0, 0, .ofNat 0)), 0, 0)]
set_option maxRecDepth 1000000 in
theorem cv1955 {gh : sxGh} (hg : sxGd sxKw gh) : sxCtV sxKw gh ct1955 := sxMeB_ok (cts := [ct1944, ct1954]) (cuts := cu1955) (sp := []) 100 (by decide +kernel) hg (by decide) (by decide) (List.forall_mem_cons.mpr ⟨cv1944 hg, (List.forall_mem_cons.mpr ⟨cv1954 hg, (fun _ h => absurd h List.not_mem_nil)⟩)⟩)
/-- LotBeliefsModel.anyOf -/
def ct1956 : sxCt := (216, 12, (3, [(1, .ofNat 0, .ofNat 4), (2, .ofNat 0, .ofNat 600)], [], [(0, .inl 78)], [], [(78, (0, .ofNat 8), .inr (false, (0, .ofNat 4))), (78, (0, .ofNat 5), .inr (false, (1, .ofNat 0))), (78, (0, .ofNat 4), .inr (false, (2, .ofNat 0)))], []), [(78, 5), (78, 6), (78, 7), (78, 9), (579, 5)], [
  (6, [(1, .ofNat 0, .ofNat 4), (2, .ofNat 0, .ofNat 600), (3, .negSucc 9223372036854775807, .ofNat 9223372036854775807), (4, .ofNat 0, .ofNat 600), (5, .ofNat 1, .ofNat 4)], [(1, 5, .ofNat 0), (2, 4, .ofNat 0)], [], [.inr (true, (3, .ofNat 0))], [(78, (0, .ofNat 4), .inr (false, (4, .ofNat 0))), (78, (0, .ofNat 5), .inr (false, (5, .ofNat 0))), (78, (0, .ofNat 8), .inr (false, (0, .ofNat 4)))], []), 
  (5, [(1, .ofNat 0, .ofNat 0), (2, .ofNat 0, .ofNat 599), (3, .negSucc 9223372036854775807, .ofNat 9223372036854775807), (4, .ofNat 1, .ofNat 600)], [(2, 4, .negSucc 0)], [], [.inr (true, (3, .ofNat 0))], [(78, (0, .ofNat 4), .inr (false, (4, .ofNat 0))), (78, (0, .ofNat 5), .inr (false, (0, .ofNat 0))), (78, (0, .ofNat 8), .inr (false, (0, .ofNat 4)))], [])], [], 0, 0)
def cu1956 : List sxCu := [
  (5, (6, [(1, .ofNat 0, .ofNat 4), (2, .ofNat 0, .ofNat 600), (3, .negSucc 9223372036854775807, .ofNat 9223372036854775807), (4, .ofNat 0, .ofNat 600), (5, .ofNat 1, .ofNat 4)], [(1, 5, .ofNat 0), (2, 4, .ofNat 0)], [(0, .inl 78), (1, .inr (true, (3, .ofNat 0)))], [], [(78, (0, .ofNat 4), .inr (false, (4, .ofNat 0))), (78, (0, .ofNat 5), .inr (false, (5, .ofNat 0))), (78, (0, .ofNat 8), .inr (false, (0, .ofNat 4)))], []), ((0, 4, .ofNat 600), (0, 0, .ofNat 0), (0, 0, .ofNat 0)), 0, 0), 
  (5, (5, [(1, .ofNat 0, .ofNat 0), (2, .ofNat 0, .ofNat 599), (3, .negSucc 9223372036854775807, .ofNat 9223372036854775807), (4, .ofNat 1, .ofNat 600)], [(2, 4, .negSucc 0)], [(0, .inl 78), (1, .inr (true, (3, .ofNat 0)))], [], [(78, (0, .ofNat 4), .inr (false, (4, .ofNat 0))), (78, (0, .ofNat 5), .inr (false, (0, .ofNat 0))), (78, (0, .ofNat 8), .inr (false, (0, .ofNat 4)))], []), ((0, 4, .ofNat 600), (0, 0, .ofNat 0), (0, 0, .ofNat 0)), 0, 0)]
set_option maxRecDepth 1000000 in
theorem cv1956 {gh : sxGh} (hg : sxGd sxKw gh) : sxCtV sxKw gh ct1956 := sxMeB_ok (cts := [ct1947, ct1955]) (cuts := cu1956) (sp := []) 100 (by decide +kernel) hg (by decide) (by decide) (List.forall_mem_cons.mpr ⟨cv1947 hg, (List.forall_mem_cons.mpr ⟨cv1955 hg, (fun _ h => absurd h List.not_mem_nil)⟩)⟩)
/-- LotBeliefsModel.oneOf -/
def ct1957 : sxCt := (218, 13, (3, [(1, .ofNat 0, .ofNat 4), (2, .ofNat 0, .ofNat 600)], [], [(0, .inl 78)], [], [(78, (0, .ofNat 8), .inr (false, (0, .ofNat 3))), (78, (0, .ofNat 5), .inr (false, (1, .ofNat 0))), (78, (0, .ofNat 4), .inr (false, (2, .ofNat 0)))], []), [(78, 5), (78, 6), (78, 7), (78, 9), (579, 5)], [
  (6, [(1, .ofNat 0, .ofNat 4), (2, .ofNat 0, .ofNat 600), (3, .negSucc 9223372036854775807, .ofNat 9223372036854775807), (4, .ofNat 0, .ofNat 600), (5, .ofNat 1, .ofNat 4)], [(1, 5, .ofNat 0), (2, 4, .ofNat 0)], [], [.inr (true, (3, .ofNat 0))], [(78, (0, .ofNat 4), .inr (false, (4, .ofNat 0))), (78, (0, .ofNat 5), .inr (false, (5, .ofNat 0))), (78, (0, .ofNat 8), .inr (false, (0, .ofNat 3)))], []), 
  (5, [(1, .ofNat 0, .ofNat 0), (2, .ofNat 0, .ofNat 599), (3, .negSucc 9223372036854775807, .ofNat 9223372036854775807), (4, .ofNat 1, .ofNat 600)], [(2, 4, .negSucc 0)], [], [.inr (true, (3, .ofNat 0))], [(78, (0, .ofNat 4), .inr (false, (4, .ofNat 0))), (78, (0, .ofNat 5), .inr (false, (0, .ofNat 0))), (78, (0, .ofNat 8), .inr (false, (0, .ofNat 3)))], [])], [], 0, 0)
def cu1957 : List sxCu := []
set_option maxRecDepth 1000000 in
theorem cv1957 {gh : sxGh} (hg : sxGd sxKw gh) : sxCtV sxKw gh ct1957 := sxMeB_ok (cts := [ct1933, ct1935, ct1937, ct1939, ct1936, ct1950, ct1940, ct1941, ct1956, ct1954]) (cuts := cu1957) (sp := []) 1605 (by decide +kernel) hg (by decide) (by decide) (List.forall_mem_cons.mpr ⟨cv1933 hg, (List.forall_mem_cons.mpr ⟨cv1935 hg, (List.forall_mem_cons.mpr ⟨cv1937 hg, (List.forall_mem_cons.mpr ⟨cv1939 hg, (List.forall_mem_cons.mpr ⟨cv1936 hg, (List.forall_mem_cons.mpr ⟨cv1950 hg, (List.forall_mem_cons.mpr ⟨cv1940 hg, (List.forall_mem_cons.mpr ⟨cv1941 hg, (List.forall_mem_cons.mpr ⟨cv1956 hg, (List.forall_mem_cons.mpr ⟨cv1954 hg, (fun _ h => absurd h List.not_mem_nil)⟩)⟩)⟩)⟩)⟩)⟩)⟩)⟩)⟩)⟩)
/-- LotBeliefsModel.eachOf -/
def ct1958 : sxCt := (217, 14, (3, [(1, .ofNat 0, .ofNat 4), (2, .ofNat 0, .ofNat 600)], [], [(0, .inl 78)], [], [(78, (0, .ofNat 8), .inr (false, (0, .ofNat 3))), (78, (0, .ofNat 5), .inr (false, (1, .ofNat 0))), (78, (0, .ofNat 4), .inr (false, (2, .ofNat 0)))], []), [(78, 5), (78, 6), (78, 7), (78, 9), (579, 5)], [
  (5, [(1, .ofNat 0, .ofNat 0), (2, .ofNat 0, .ofNat 599), (3, .negSucc 9223372036854775807, .ofNat 9223372036854775807), (4, .ofNat 1, .ofNat 600)], [(2, 4, .negSucc 0)], [], [.inr (true, (3, .ofNat 0))], [(78, (0, .ofNat 4), .inr (false, (4, .ofNat 0))), (78, (0, .ofNat 5), .inr (false, (0, .ofNat 0))), (78, (0, .ofNat 8), .inr (false, (0, .ofNat 3)))], []), 
  (6, [(1, .ofNat 0, .ofNat 4), (2, .ofNat 0, .ofNat 600), (3, .negSucc 9223372036854775807, .ofNat 9223372036854775807), (4, .ofNat 0, .ofNat 600), (5, .ofNat 1, .ofNat 4)], [(1, 5, .ofNat 0), (2, 4, .ofNat 0)], [], [.inr (true, (3, .ofNat 0))], [(78, (0, .ofNat 4), .inr (false, (4, .ofNat 0))), (78, (0, .ofNat 5), .inr (false, (5, .ofNat 0))), (78, (0, .ofNat 8), .inr (false, (0, .ofNat 3)))], [])], [], 0, 0)
def cu1958 : List sxCu := [
  (5, (6, [(1, .ofNat 0, .ofNat 4), (2, .ofNat 0, .ofNat 600), (3, .negSucc 9223372036854775807, .ofNat 9223372036854775807), (4, .ofNat 0, .ofNat 600), (5, .ofNat 1, .ofNat 4)], [(1, 5, .ofNat 0), (2, 4, .ofNat 0)], [(0, .inl 78), (1, .inr (true, (3, .ofNat 0)))], [], [(78, (0, .ofNat 4), .inr (false, (4, .ofNat 0))), (78, (0, .ofNat 5), .inr (false, (5, .ofNat 0))), (78, (0, .ofNat 8), .inr (false, (0, .ofNat 3)))], []), ((0, 4, .ofNat 600), (0, 0, .ofNat 0), (0, 0, .ofNat 0)), 0, 0), 
  (5, (5, [(1, .ofNat 0, .ofNat 0), (2, .ofNat 0, .ofNat 599), (3, .negSucc 9223372036854775807, .ofNat 9223372036854775807), (4, .ofNat 1, .ofNat 600)], [(2, 4, .negSucc 0)], [(0, .inl 78), (1, .inr (true, (3, .ofNat 0)))], [], [(78, (0, .ofNat 4), .inr (false, (4, .ofNat 0))), (78, (0, .ofNat 5), .inr (false, (0, .ofNat 0))), (78, (0, .ofNat 8), .inr (false, (0, .ofNat 3)))], []), ((0, 4, .ofNat 600), (0, 0, .ofNat 0), (0, 0, .ofNat 0)), 0, 0)]
set_option maxRecDepth 1000000 in
theorem cv1958 {gh : sxGh} (hg : sxGd sxKw gh) : sxCtV sxKw gh ct1958 := sxMeB_ok (cts := [ct1944, ct1957]) (cuts := cu1958) (sp := []) 100 (by decide +kernel) hg (by decide) (by decide) (List.forall_mem_cons.mpr ⟨cv1944 hg, (List.forall_mem_cons.mpr ⟨cv1957 hg, (fun _ h => absurd h List.not_mem_nil)⟩)⟩)
/-- LotBeliefsModel.anyOf -/
def ct1959 : sxCt := (216, 15, (3, [(1, .ofNat 0, .ofNat 4), (2, .ofNat 0, .ofNat 600)], [], [(0, .inl 78)], [], [(78, (0, .ofNat 8), .inr (false, (0, .ofNat 3))), (78, (0, .ofNat 5), .inr (false, (1, .ofNat 0))), (78, (0, .ofNat 4), .inr (false, (2, .ofNat 0)))], []), [(78, 5), (78, 6), (78, 7), (78, 9), (579, 5)], [
  (6, [(1, .ofNat 0, .ofNat 4), (2, .ofNat 0, .ofNat 600), (3, .negSucc 9223372036854775807, .ofNat 9223372036854775807), (4, .ofNat 0, .ofNat 600), (5, .ofNat 1, .ofNat 4)], [(1, 5, .ofNat 0), (2, 4, .ofNat 0)], [], [.inr (true, (3, .ofNat 0))], [(78, (0, .ofNat 4), .inr (false, (4, .ofNat 0))), (78, (0, .ofNat 5), .inr (false, (5, .ofNat 0))), (78, (0, .ofNat 8), .inr (false, (0, .ofNat 3)))], []), 
  (5, [(1, .ofNat 0, .ofNat 0), (2, .ofNat 0, .ofNat 599), (3, .negSucc 9223372036854775807, .ofNat 9223372036854775807), (4, .ofNat 1, .ofNat 600)], [(2, 4, .negSucc 0)], [], [.inr (true, (3, .ofNat 0))], [(78, (0, .ofNat 4), .inr (false, (4, .ofNat 0))), (78, (0, .ofNat 5), .inr (false, (0, .ofNat 0))), (78, (0, .ofNat 8), .inr (false, (0, .ofNat 3)))], [])], [], 0, 0)
def cu1959 : List sxCu := [
  (5, (6, [(1, .ofNat 0, .ofNat 4), (2, .ofNat 0, .ofNat 600), (3, .negSucc 9223372036854775807, .ofNat 9223372036854775807), (4, .ofNat 0, .ofNat 600), (5, .ofNat 1, .ofNat 4)], [(1, 5, .ofNat 0), (2, 4, .ofNat 0)], [(0, .inl 78), (1, .inr (true, (3, .ofNat 0)))], [], [(78, (0, .ofNat 4), .inr (false, (4, .ofNat 0))), (78, (0, .ofNat 5), .inr (false, (5, .ofNat 0))), (78, (0, .ofNat 8), .inr (false, (0, .ofNat 3)))], []), ((0, 4, .ofNat 600), (0, 0, .ofNat 0), (0, 0, .ofNat 0)), 0, 0), 
  (5, (5, [(1, .ofNat 0, .ofNat 0), (2, .ofNat 0, .ofNat 599), (3, .negSucc 9223372036854775807, .ofNat 9223372036854775807), (4, .ofNat 1, .ofNat 600)], [(2, 4, .negSucc 0)], [(0, .inl 78), (1, .inr (true, (3, .ofNat 0)))], [], [(78, (0, .ofNat 4), .inr (false, (4, .ofNat 0))), (78, (0, .ofNat 5), .inr (false, (0, .ofNat 0))), (78, (0, .ofNat 8), .inr (false, (0, .ofNat 3)))], []), ((0, 4, .ofNat 600), (0, 0, .ofNat 0), (0, 0, .ofNat 0)), 0, 0)]
set_option maxRecDepth 1000000 in
theorem cv1959 {gh : sxGh} (hg : sxGd sxKw gh) : sxCtV sxKw gh ct1959 := sxMeB_ok (cts := [ct1947, ct1958]) (cuts := cu1959) (sp := []) 100 (by decide +kernel) hg (by decide) (by decide) (List.forall_mem_cons.mpr ⟨cv1947 hg, (List.forall_mem_cons.mpr ⟨cv1958 hg, (fun _ h => absurd h List.not_mem_nil)⟩)⟩)
/-- LotBeliefsModel.oneOf -/
def ct1960 : sxCt := (218, 16, (3, [(1, .ofNat 0, .ofNat 4), (2, .ofNat 0, .ofNat 600)], [], [(0, .inl 78)], [], [(78, (0, .ofNat 8), .inr (false, (0, .ofNat 2))), (78, (0, .ofNat 5), .inr (false, (1, .ofNat 0))), (78, (0, .ofNat 4), .inr (false, (2, .ofNat 0)))], []), [(78, 5), (78, 6), (78, 7), (78, 9), (579, 5)], [
  (6, [(1, .ofNat 0, .ofNat 4), (2, .ofNat 0, .ofNat 600), (3, .negSucc 9223372036854775807, .ofNat 9223372036854775807), (4, .ofNat 0, .ofNat 600), (5, .ofNat 1, .ofNat 4)], [(1, 5, .ofNat 0), (2, 4, .ofNat 0)], [], [.inr (true, (3, .ofNat 0))], [(78, (0, .ofNat 4), .inr (false, (4, .ofNat 0))), (78, (0, .ofNat 5), .inr (false, (5, .ofNat 0))), (78, (0, .ofNat 8), .inr (false, (0, .ofNat 2)))], []), 
  (5, [(1, .ofNat 0, .ofNat 0), (2, .ofNat 0, .ofNat 599), (3, .negSucc 9223372036854775807, .ofNat 9223372036854775807), (4, .ofNat 1, .ofNat 600)], [(2, 4, .negSucc 0)], [], [.inr (true, (3, .ofNat 0))], [(78, (0, .ofNat 4), .inr (false, (4, .ofNat 0))), (78, (0, .ofNat 5), .inr (false, (0, .ofNat 0))), (78, (0, .ofNat 8), .inr (false, (0, .ofNat 2)))], [])], [], 0, 0)
def cu1960 : List sxCu := []
set_option maxRecDepth 1000000 in
theorem cv1960 {gh : sxGh} (hg : sxGd sxKw gh) : sxCtV sxKw gh ct1960 := sxMeB_ok (cts := [ct1933, ct1935, ct1937, ct1939, ct1936, ct1950, ct1940, ct1941, ct1959, ct1957]) (cuts := cu1960) (sp := []) 1605 (by decide +kernel) hg (by decide) (by decide) (List.forall_mem_cons.mpr ⟨cv1933 hg, (List.forall_mem_cons.mpr ⟨cv1935 hg, (List.forall_mem_cons.mpr ⟨cv1937 hg, (List.forall_mem_cons.mpr ⟨cv1939 hg, (List.forall_mem_cons.mpr ⟨cv1936 hg, (List.forall_mem_cons.mpr ⟨cv1950 hg, (List.forall_mem_cons.mpr ⟨cv1940 hg, (List.forall_mem_cons.mpr ⟨cv1941 hg, (List.forall_mem_cons.mpr ⟨cv1959 hg, (List.forall_mem_cons.mpr ⟨cv1957 hg, (fun _ h => absurd h List.not_mem_nil)⟩)⟩)⟩)⟩)⟩)⟩)⟩)⟩)⟩)⟩)
/-- LotBeliefsModel.eachOf -/
def ct1961 : sxCt := (217, 17, (3, [(1, .ofNat 0, .ofNat 4), (2, .ofNat 0, .ofNat 600)], [], [(0, .inl 78)], [], [(78, (0, .ofNat 8), .inr (false, (0, .ofNat 2))), (78, (0, .ofNat 5), .inr (false, (1, .ofNat 0))), (78, (0, .ofNat 4), .inr (false, (2, .ofNat 0)))], []), [(78, 5), (78, 6), (78, 7), (78, 9), (579, 5)], [
  (5, [(1, .ofNat 0, .ofNat 0), (2, .ofNat 0, .ofNat 599), (3, .negSucc 9223372036854775807, .ofNat 9223372036854775807), (4, .ofNat 1, .ofNat 600)], [(2, 4, .negSucc 0)], [], [.inr (true, (3, .ofNat 0))], [(78, (0, .ofNat 4), .inr (false, (4, .ofNat 0))), (78, (0, .ofNat 5), .inr (false, (0, .ofNat 0))), (78, (0, .ofNat 8), .inr (false, (0, .ofNat 2)))], []), 
  (6, [(1, .ofNat 0, .ofNat 4), (2, .ofNat 0, .ofNat 600), (3, .negSucc 9223372036854775807, .ofNat 9223372036854775807), (4, .ofNat 0, .ofNat 600), (5, .ofNat 1, .ofNat 4)], [(1, 5, .ofNat 0), (2, 4, .ofNat 0)], [], [.inr (true, (3, .ofNat 0))], [(78, (0, .ofNat 4), .inr (false, (4, .ofNat 0))), (78, (0, .ofNat 5), .inr (false, (5, .ofNat 0))), (78, (0, .ofNat 8), .inr (false, (0, .ofNat 2)))], [])], [], 0, 0)
def cu1961 : List sxCu := [
  (5, (6, [(1, .ofNat 0, .ofNat 4), (2, .ofNat 0, .ofNat 600), (3, .negSucc 9223372036854775807, .ofNat 9223372036854775807), (4, .ofNat 0, .ofNat 600), (5, .ofNat 1, .ofNat 4)], [(1, 5, .ofNat 0), (2, 4, .ofNat 0)], [(0, .inl 78), (1, .inr (true, (3, .ofNat 0)))], [], [(78, (0, .ofNat 4), .inr (false, (4, .ofNat 0))), (78, (0, .ofNat 5), .inr (false, (5, .ofNat 0))), (78, (0, .ofNat 8), .inr (false, (0, .ofNat 2)))], []), ((0, 4, .ofNat 600), (0, 0, .ofNat 0), (0, 0, .ofNat 0)), 0, 0), 
  (5, (5, [(1, .ofNat 0, .ofNat 0), (2, .ofNat 0, .ofNat 599), (3, .negSucc 9223372036854775807, .ofNat 9223372036854775807), (4, .ofNat 1, .ofNat 600)], [(2, 4, .negSucc 0)], [(0, .inl 78), (1, .inr (true, (3, .ofNat 0)))], [], [(78, (0, .ofNat 4), .inr (false, (4, .ofNat 0))), (78, (0, .ofNat 5), .inr (false, (0, .ofNat 0))), (78, (0, .ofNat 8), .inr (false, (0, .ofNat 2)))], []), ((0, 4, .ofNat 600), (0, 0, .ofNat 0), (0, 0, .ofNat 0)), 0, 0)]
set_option maxRecDepth 1000000 in
theorem cv1961 {gh : sxGh} (hg : sxGd sxKw gh) : sxCtV sxKw gh ct1961 := sxMeB_ok (cts := [ct1944, ct1960]) (cuts := cu1961) (sp := []) 100 (by decide +kernel) hg (by decide) (by decide) (List.forall_mem_cons.mpr ⟨cv1944 hg, (List.forall_mem_cons.mpr ⟨cv1960 hg, (fun _ h => absurd h List.not_mem_nil)⟩)⟩)
/-- LotBeliefsModel.anyOf -/
def ct1962 : sxCt := (216, 18, (3, [(1, .ofNat 0, .ofNat 4), (2, .ofNat 0, .ofNat 600)], [], [(0, .inl 78)], [], [(78, (0, .ofNat 8), .inr (false, (0, .ofNat 2))), (78, (0, .ofNat 5), .inr (false, (1, .ofNat 0))), (78, (0, .ofNat 4), .inr (false, (2, .ofNat 0)))], []), [(78, 5), (78, 6), (78, 7), (78, 9), (579, 5)], [
  (6, [(1, .ofNat 0, .ofNat 4), (2, .ofNat 0, .ofNat 600), (3, .negSucc 9223372036854775807, .ofNat 9223372036854775807), (4, .ofNat 0, .ofNat 600), (5, .ofNat 1, .ofNat 4)], [(1, 5, .ofNat 0), (2, 4, .ofNat 0)], [], [.inr (true, (3, .ofNat 0))], [(78, (0, .ofNat 4), .inr (false, (4, .ofNat 0))), (78, (0, .ofNat 5), .inr (false, (5, .ofNat 0))), (78, (0, .ofNat 8), .inr (false, (0, .ofNat 2)))], []), 
  (5, [(1, .ofNat 0, .ofNat 0), (2, .ofNat 0, .ofNat 599), (3, .negSucc 9223372036854775807, .ofNat 9223372036854775807), (4, .ofNat 1, .ofNat 600)], [(2, 4, .negSucc 0)], [], [.inr (true, (3, .ofNat 0))], [(78, (0, .ofNat 4), .inr (false, (4, .ofNat 0))), (78, (0, .ofNat 5), .inr (false, (0, .ofNat 0))), (78, (0, .ofNat 8), .inr (false, (0, .ofNat 2)))], [])], [], 0, 0)
def cu1962 : List sxCu := [
  (5, (6, [(1, .ofNat 0, .ofNat 4), (2, .ofNat 0, .ofNat 600), (3, .negSucc 9223372036854775807, .ofNat 9223372036854775807), (4, .ofNat 0, .ofNat 600), (5, .ofNat 1, .ofNat 4)], [(1, 5, .ofNat 0), (2, 4, .ofNat 0)], [(0, .inl 78), (1, .inr (true, (3, .ofNat 0)))], [], [(78, (0, .ofNat 4), .inr (false, (4, .ofNat 0))), (78, (0, .ofNat 5), .inr (false, (5, .ofNat 0))), (78, (0, .ofNat 8), .inr (false, (0, .ofNat 2)))], []), ((0, 4, .ofNat 600), (0, 0, .ofNat 0), (0, 0, .ofNat 0)), 0, 0), 
  (5, (5, [(1, .ofNat 0, .ofNat 0), (2, .ofNat 0, .ofNat 599), (3, .negSucc 9223372036854775807, .ofNat 9223372036854775807), (4, .ofNat 1, .ofNat 600)], [(2, 4, .negSucc 0)], [(0, .inl 78), (1, .inr (true, (3, .ofNat 0)))], [], [(78, (0, .ofNat 4), .inr (false, (4, .ofNat 0))), (78, (0, .ofNat 5), .inr (false, (0, .ofNat 0))), (78, (0, .ofNat 8), .inr (false, (0, .ofNat 2)))], []), ((0, 4, .ofNat 600), (0, 0, .ofNat 0), (0, 0, .ofNat 0)), 0, 0)]
set_option maxRecDepth 1000000 in
theorem cv1962 {gh : sxGh} (hg : sxGd sxKw gh) : sxCtV sxKw gh ct1962 := sxMeB_ok (cts := [ct1947, ct1961]) (cuts := cu1962) (sp := []) 100 (by decide +kernel) hg (by decide) (by decide) (List.forall_mem_cons.mpr ⟨cv1947 hg, (List.forall_mem_cons.mpr ⟨cv1961 hg, (fun _ h => absurd h List.not_mem_nil)⟩)⟩)
/-- LotBeliefsModel.oneOf -/
def ct1963 : sxCt := (218, 19, (3, [(1, .ofNat 0, .ofNat 4), (2, .ofNat 0, .ofNat 600)], [], [(0, .inl 78)], [], [(78, (0, .ofNat 8), .inr (false, (0, .ofNat 1))), (78, (0, .ofNat 5), .inr (false, (1, .ofNat 0))), (78, (0, .ofNat 4), .inr (false, (2, .ofNat 0)))], []), [(78, 5), (78, 6), (78, 7), (78, 9), (579, 5)], [
  (6, [(1, .ofNat 0, .ofNat 4), (2, .ofNat 0, .ofNat 600), (3, .negSucc 9223372036854775807, .ofNat 9223372036854775807), (4, .ofNat 0, .ofNat 600), (5, .ofNat 1, .ofNat 4)], [(1, 5, .ofNat 0), (2, 4, .ofNat 0)], [], [.inr (true, (3, .ofNat 0))], [(78, (0, .ofNat 4), .inr (false, (4, .ofNat 0))), (78, (0, .ofNat 5), .inr (false, (5, .ofNat 0))), (78, (0, .ofNat 8), .inr (false, (0, .ofNat 1)))], []), 
  (5, [(1, .ofNat 0, .ofNat 0), (2, .ofNat 0, .ofNat 599), (3, .negSucc 9223372036854775807, .ofNat 9223372036854775807), (4, .ofNat 1, .ofNat 600)], [(2, 4, .negSucc 0)], [], [.inr (true, (3, .ofNat 0))], [(78, (0, .ofNat 4), .inr (false, (4, .ofNat 0))), (78, (0, .ofNat 5), .inr (false, (0, .ofNat 0))), (78, (0, .ofNat 8), .inr (false, (0, .ofNat 1)))], [])], [], 0, 0)
def cu1963 : List sxCu := []
set_option maxRecDepth 1000000 in
theorem cv1963 {gh : sxGh} (hg : sxGd sxKw gh) : sxCtV sxKw gh ct1963 := sxMeB_ok (cts := [ct1933, ct1935, ct1937, ct1939, ct1936, ct1950, ct1940, ct1941, ct1962, ct1960]) (cuts := cu1963) (sp := []) 1605 (by decide +kernel) hg (by decide) (by decide) (List.forall_mem_cons.mpr ⟨cv1933 hg, (List.forall_mem_cons.mpr ⟨cv1935 hg, (List.forall_mem_cons.mpr ⟨cv1937 hg, (List.forall_mem_cons.mpr ⟨cv1939 hg, (List.forall_mem_cons.mpr ⟨cv1936 hg, (List.forall_mem_cons.mpr ⟨cv1950 hg, (List.forall_mem_cons.mpr ⟨cv1940 hg, (List.forall_mem_cons.mpr ⟨cv1941 hg, (List.forall_mem_cons.mpr ⟨cv1962 hg, (List.forall_mem_cons.mpr ⟨cv1960 hg, (fun _ h => absurd h List.not_mem_nil)⟩)⟩)⟩)⟩)⟩)⟩)⟩)⟩)⟩)⟩)
/-- LotBeliefsModel.eachOf -/
def ct1964 : sxCt := (217, 20, (3, [(1, .ofNat 0, .ofNat 4), (2, .ofNat 0, .ofNat 600)], [], [(0, .inl 78)], [], [(78, (0, .ofNat 8), .inr (false, (0, .ofNat 1))), (78, (0, .ofNat 5), .inr (false, (1, .ofNat 0))), (78, (0, .ofNat 4), .inr (false, (2, .ofNat 0)))], []), [(78, 5), (78, 6), (78, 7), (78, 9), (579, 5)], [
  (5, [(1, .ofNat 0, .ofNat 0), (2, .ofNat 0, .ofNat 599), (3, .negSucc 9223372036854775807, .ofNat 9223372036854775807), (4, .ofNat 1, .ofNat 600)], [(2, 4, .negSucc 0)], [], [.inr (true, (3, .ofNat 0))], [(78, (0, .ofNat 4), .inr (false, (4, .ofNat 0))), (78, (0, .ofNat 5), .inr (false, (0, .ofNat 0))), (78, (0, .ofNat 8), .inr (false, (0, .ofNat 1)))], []), 
  (6, [(1, .ofNat 0, .ofNat 4), (2, .ofNat 0, .ofNat 600), (3, .negSucc 9223372036854775807, .ofNat 9223372036854775807), (4, .ofNat 0, .ofNat 600), (5, .ofNat 1, .ofNat 4)], [(1, 5, .ofNat 0), (2, 4, .ofNat 0)], [], [.inr (true, (3, .ofNat 0))], [(78, (0, .ofNat 4), .inr (false, (4, .ofNat 0))), (78, (0, .ofNat 5), .inr (false, (5, .ofNat 0))), (78, (0, .ofNat 8), .inr (false, (0, .ofNat 1)))], [])], [], 0, 0)
def cu1964 : List sxCu := [
  (5, (6, [(1, .ofNat 0, .ofNat 4), (2, .ofNat 0, .ofNat 600), (3, .negSucc 9223372036854775807, .ofNat 9223372036854775807), (4, .ofNat 0, .ofNat 600), (5, .ofNat 1, .ofNat 4)], [(1, 5, .ofNat 0), (2, 4, .ofNat 0)], [(0, .inl 78), (1, .inr (true, (3, .ofNat 0)))], [], [(78, (0, .ofNat 4), .inr (false, (4, .ofNat 0))), (78, (0, .ofNat 5), .inr (false, (5, .ofNat 0))), (78, (0, .ofNat 8), .inr (false, (0, .ofNat 1)))], []), ((0, 4, .ofNat 600), (0, 0, .ofNat 0), (0, 0, .ofNat 0)), 0, 0), 
  (5, (5, [(1, .ofNat 0, .ofNat 0), (2, .ofNat 0, .ofNat 599), (3, .negSucc 9223372036854775807, .ofNat 9223372036854775807), (4, .ofNat 1, .ofNat 600)], [(2, 4, .negSucc 0)], [(0, .inl 78), (1, .inr (true, (3, .ofNat 0)))], [], [(78, (0, .ofNat 4), .inr (false, (4, .ofNat 0))), (78, (0, .ofNat 5), .inr (false, (0, .ofNat 0))), (78, (0, .ofNat 8), .inr (false, (0, .ofNat 1)))], []), ((0, 4, .ofNat 600), (0, 0, .ofNat 0), (0, 0, .ofNat 0)), 0, 0)]
set_option maxRecDepth 1000000 in
theorem cv1964 {gh : sxGh} (hg : sxGd sxKw gh) : sxCtV sxKw gh ct1964 := sxMeB_ok (cts := [ct1944, ct1963]) (cuts := cu1964) (sp := []) 100 (by decide +kernel) hg (by decide) (by decide) (List.forall_mem_cons.mpr ⟨cv1944 hg, (List.forall_mem_cons.mpr ⟨cv1963 hg, (fun _ h => absurd h List.not_mem_nil)⟩)⟩)
/-- LotBeliefsModel.anyOf -/
def ct1965 : sxCt := (216, 21, (3, [(1, .ofNat 0, .ofNat 4), (2, .ofNat 0, .ofNat 600)], [], [(0, .inl 78)], [], [(78, (0, .ofNat 8), .inr (false, (0, .ofNat 1))), (78, (0, .ofNat 5), .inr (false, (1, .ofNat 0))), (78, (0, .ofNat 4), .inr (false, (2, .ofNat 0)))], []), [(78, 5), (78, 6), (78, 7), (78, 9), (579, 5)], [
  (6, [(1, .ofNat 0, .ofNat 4), (2, .ofNat 0, .ofNat 600), (3, .negSucc 9223372036854775807, .ofNat 9223372036854775807), (4, .ofNat 0, .ofNat 600), (5, .ofNat 1, .ofNat 4)], [(1, 5, .ofNat 0), (2, 4, .ofNat 0)], [], [.inr (true, (3, .ofNat 0))], [(78, (0, .ofNat 4), .inr (false, (4, .ofNat 0))), (78, (0, .ofNat 5), .inr (false, (5, .ofNat 0))), (78, (0, .ofNat 8), .inr (false, (0, .ofNat 1)))], []), 
  (5, [(1, .ofNat 0, .ofNat 0), (2, .ofNat 0, .ofNat 599), (3, .negSucc 9223372036854775807, .ofNat 9223372036854775807), (4, .ofNat 1, .ofNat 600)], [(2, 4, .negSucc 0)], [], [.inr (true, (3, .ofNat 0))], [(78, (0, .ofNat 4), .inr (false, (4, .ofNat 0))), (78, (0, .ofNat 5), .inr (false, (0, .ofNat 0))), (78, (0, .ofNat 8), .inr (false, (0, .ofNat 1)))], [])], [], 0, 0)
def cu1965 : List sxCu := [
  (5, (6, [(1, .ofNat 0, .ofNat 4), (2, .ofNat 0, .ofNat 600), (3, .negSucc 9223372036854775807, .ofNat 9223372036854775807), (4, .ofNat 0, .ofNat 600), (5, .ofNat 1, .ofNat 4)], [(1, 5, .ofNat 0), (2, 4, .ofNat 0)], [(0, .inl 78), (1, .inr (true, (3, .ofNat 0)))], [], [(78, (0, .ofNat 4), .inr (false, (4, .ofNat 0))), (78, (0, .ofNat 5), .inr (false, (5, .ofNat 0))), (78, (0, .ofNat 8), .inr (false, (0, .ofNat 1)))], []), ((0, 4, .ofNat 600), (0, 0, .ofNat 0), (0, 0, .ofNat 0)), 0, 0), 
  (5, (5, [(1, .ofNat 0, .ofNat 0), (2, .ofNat 0, .ofNat 599), (3, .negSucc 9223372036854775807, .ofNat 9223372036854775807), (4, .ofNat 1, .ofNat 600)], [(2, 4, .negSucc 0)], [(0, .inl 78), (1, .inr (true, (3, .ofNat 0)))], [], [(78, (0, .ofNat 4), .inr (false, (4, .ofNat 0))), (78, (0, .ofNat 5), .inr (false, (0, .ofNat 0))), (78, (0, .ofNat 8), .inr (false, (0, .ofNat 1)))], []), ((0, 4, .ofNat 600), (0, 0, .ofNat 0), (0, 0, .ofNat 0)), 0, 0)]
set_option maxRecDepth 1000000 in
theorem cv1965 {gh : sxGh} (hg : sxGd sxKw gh) : sxCtV sxKw gh ct1965 := sxMeB_ok (cts := [ct1947, ct1964]) (cuts := cu1965) (sp := []) 100 (by decide +kernel) hg (by decide) (by decide) (List.forall_mem_cons.mpr ⟨cv1947 hg, (List.forall_mem_cons.mpr ⟨cv1964 hg, (fun _ h => absurd h List.not_mem_nil)⟩)⟩)
/-- LotBeliefsModel.oneOf -/
def ct1966 : sxCt := (218, 22, (3, [(1, .ofNat 0, .ofNat 4), (2, .ofNat 0, .ofNat 600)], [], [(0, .inl 78)], [], [(78, (0, .ofNat 8), .inr (false, (0, .ofNat 0))), (78, (0, .ofNat 5), .inr (false, (1, .ofNat 0))), (78, (0, .ofNat 4), .inr (false, (2, .ofNat 0)))], []), [(78, 5), (78, 6), (78, 7), (78, 9), (579, 5)], [
  (6, [(1, .ofNat 0, .ofNat 4), (2, .ofNat 0, .ofNat 600), (3, .negSucc 9223372036854775807, .ofNat 9223372036854775807), (4, .ofNat 0, .ofNat 600), (5, .ofNat 1, .ofNat 4)], [(1, 5, .ofNat 0), (2, 4, .ofNat 0)], [], [.inr (true, (3, .ofNat 0))], [(78, (0, .ofNat 4), .inr (false, (4, .ofNat 0))), (78, (0, .ofNat 5), .inr (false, (5, .ofNat 0))), (78, (0, .ofNat 8), .inr (false, (0, .ofNat 0)))], []), 
  (5, [(1, .ofNat 0, .ofNat 0), (2, .ofNat 0, .ofNat 599), (3, .negSucc 9223372036854775807, .ofNat 9223372036854775807), (4, .ofNat 1, .ofNat 600)], [(2, 4, .negSucc 0)], [], [.inr (true, (3, .ofNat 0))], [(78, (0, .ofNat 4), .inr (false, (4, .ofNat 0))), (78, (0, .ofNat 5), .inr (false, (0, .ofNat 0))), (78, (0, .ofNat 8), .inr (false, (0, .ofNat 0)))], [])], [], 0, 0)
def cu1966 : List sxCu := []
set_option maxRecDepth 1000000 in
theorem cv1966 {gh : sxGh} (hg : sxGd sxKw gh) : sxCtV sxKw gh ct1966 := sxMeB_ok (cts := [ct1933, ct1935, ct1937, ct1939, ct1936, ct1950, ct1940, ct1941, ct1965, ct1963]) (cuts := cu1966) (sp := []) 1605 (by decide +kernel) hg (by decide) (by decide) (List.forall_mem_cons.mpr ⟨cv1933 hg, (List.forall_mem_cons.mpr ⟨cv1935 hg, (List.forall_mem_cons.mpr ⟨cv1937 hg, (List.forall_mem_cons.mpr ⟨cv1939 hg, (List.forall_mem_cons.mpr ⟨cv1936 hg, (List.forall_mem_cons.mpr ⟨cv1950 hg, (List.forall_mem_cons.mpr ⟨cv1940 hg, (List.forall_mem_cons.mpr ⟨cv1941 hg, (List.forall_mem_cons.mpr ⟨cv1965 hg, (List.forall_mem_cons.mpr ⟨cv1963 hg, (fun _ h => absurd h List.not_mem_nil)⟩)⟩)⟩)⟩)⟩)⟩)⟩)⟩)⟩)⟩)
/-- LotBeliefsModel.eachOf -/
def ct1967 : sxCt := (217, 23, (3, [(1, .ofNat 0, .ofNat 4), (2, .ofNat 0, .ofNat 600)], [], [(0, .inl 78)], [], [(78, (0, .ofNat 8), .inr (false, (0, .ofNat 0))), (78, (0, .ofNat 5), .inr (false, (1, .ofNat 0))), (78, (0, .ofNat 4), .inr (false, (2, .ofNat 0)))], []), [(78, 5), (78, 6), (78, 7), (78, 9), (579, 5)], [
  (5, [(1, .ofNat 0, .ofNat 0), (2, .ofNat 0, .ofNat 599), (3, .negSucc 9223372036854775807, .ofNat 9223372036854775807), (4, .ofNat 1, .ofNat 600)], [(2, 4, .negSucc 0)], [], [.inr (true, (3, .ofNat 0))], [(78, (0, .ofNat 4), .inr (false, (4, .ofNat 0))), (78, (0, .ofNat 5), .inr (false, (0, .ofNat 0))), (78, (0, .ofNat 8), .inr (false, (0, .ofNat 0)))], []), 
  (6, [(1, .ofNat 0, .ofNat 4), (2, .ofNat 0, .ofNat 600), (3, .negSucc 9223372036854775807, .ofNat 9223372036854775807), (4, .ofNat 0, .ofNat 600), (5, .ofNat 1, .ofNat 4)], [(1, 5, .ofNat 0), (2, 4, .ofNat 0)], [], [.inr (true, (3, .ofNat 0))], [(78, (0, .ofNat 4), .inr (false, (4, .ofNat 0))), (78, (0, .ofNat 5), .inr (false, (5, .ofNat 0))), (78, (0, .ofNat 8), .inr (false, (0, .ofNat 0)))], [])], [], 0, 0)
def cu1967 : List sxCu := [
  (5, (6, [(1, .ofNat 0, .ofNat 4), (2, .ofNat 0, .ofNat 600), (3, .negSucc 9223372036854775807, .ofNat 9223372036854775807), (4, .ofNat 0, .ofNat 600), (5, .ofNat 1, .ofNat 4)], [(1, 5, .ofNat 0), (2, 4, .ofNat 0)], [(0, .inl 78), (1, .inr (true, (3, .ofNat 0)))], [], [(78, (0, .ofNat 4), .inr (false, (4, .ofNat 0))), (78, (0, .ofNat 5), .inr (false, (5, .ofNat 0))), (78, (0, .ofNat 8), .inr (false, (0, .ofNat 0)))], []), ((0, 4, .ofNat 600), (0, 0, .ofNat 0), (0, 0, .ofNat 0)), 0, 0), 
  (5, (5, [(1, .ofNat 0, .ofNat 0), (2, .ofNat 0, .ofNat 599), (3, .negSucc 9223372036854775807, .ofNat 9223372036854775807), (4, .ofNat 1, .ofNat 600)], [(2, 4, .negSucc 0)], [(0, .inl 78), (1, .inr (true, (3, .ofNat 0)))], [], [(78, (0, .ofNat 4), .inr (false, (4, .ofNat 0))), (78, (0, .ofNat 5), .inr (false, (0, .ofNat 0))), (78, (0, .ofNat 8), .inr (false, (0, .ofNat 0)))], []), ((0, 4, .ofNat 600), (0, 0, .ofNat 0), (0, 0, .ofNat 0)), 0, 0)]
set_option maxRecDepth 1000000 in
theorem cv1967 {gh : sxGh} (hg : sxGd sxKw gh) : sxCtV sxKw gh ct1967 := sxMeB_ok (cts := [ct1944, ct1966]) (cuts := cu1967) (sp := []) 100 (by decide +kernel) hg (by decide) (by decide) (List.forall_mem_cons.mpr ⟨cv1944 hg, (List.forall_mem_cons.mpr ⟨cv1966 hg, (fun _ h => absurd h List.not_mem_nil)⟩)⟩)
/-- LotBeliefsModel.anyOf -/
def ct1968 : sxCt := (216, 24, (3, [(1, .ofNat 0, .ofNat 4), (2, .ofNat 0, .ofNat 600)], [], [(0, .inl 78)], [], [(78, (0, .ofNat 8), .inr (false, (0, .ofNat 0))), (78, (0, .ofNat 5), .inr (false, (1, .ofNat 0))), (78, (0, .ofNat 4), .inr (false, (2, .ofNat 0)))], []), [(78, 5), (78, 6), (78, 7), (78, 9), (579, 5)], [
  (6, [(1, .ofNat 0, .ofNat 4), (2, .ofNat 0, .ofNat 600), (3, .negSucc 9223372036854775807, .ofNat 9223372036854775807), (4, .ofNat 0, .ofNat 600), (5, .ofNat 1, .ofNat 4)], [(1, 5, .ofNat 0), (2, 4, .ofNat 0)], [], [.inr (true, (3, .ofNat 0))], [(78, (0, .ofNat 4), .inr (false, (4, .ofNat 0))), (78, (0, .ofNat 5), .inr (false, (5, .ofNat 0))), (78, (0, .ofNat 8), .inr (false, (0, .ofNat 0)))], []), 
  (5, [(1, .ofNat 0, .ofNat 0), (2, .ofNat 0, .ofNat 599), (3, .negSucc 9223372036854775807, .ofNat 9223372036854775807), (4, .ofNat 1, .ofNat 600)], [(2, 4, .negSucc 0)], [], [.inr (true, (3, .ofNat 0))], [(78, (0, .ofNat 4), .inr (false, (4, .ofNat 0))), (78, (0, .ofNat 5), .inr (false, (0, .ofNat 0))), (78, (0, .ofNat 8), .inr (false, (0, .ofNat 0)))], [])], [], 0, 0)
def cu1968 : List sxCu := [
  (5, (6, [(1, .ofNat 0, .ofNat 4), (2, .ofNat 0, .ofNat 600), (3, .negSucc 9223372036854775807, .ofNat 9223372036854775807), (4, .ofNat 0, .ofNat 600), (5, .ofNat 1, .ofNat 4)], [(1, 5, .ofNat 0), (2, 4, .ofNat 0)], [(0, .inl 78), (1, .inr (true, (3, .ofNat 0)))], [], [(78, (0, .ofNat 4), .inr (false, (4, .ofNat 0))), (78, (0, .ofNat 5), .inr (false, (5, .ofNat 0))), (78, (0, .ofNat 8), .inr (false, (0, .ofNat 0)))], []), ((0, 4, .ofNat 600), (0, 0, .ofNat 0), (0, 0, .ofNat 0)), 0, 0), 
  (5, (5, [(1, .ofNat 0, .ofNat 0), (2, .ofNat 0, .ofNat 599), (3, .negSucc 9223372036854775807, .ofNat 9223372036854775807), (4, .ofNat 1, .ofNat 600)], [(2, 4, .negSucc 0)], [(0, .inl 78), (1, .inr (true, (3, .ofNat 0)))], [], [(78, (0, .ofNat 4), .inr (false, (4, .ofNat 0))), (78, (0, .ofNat 5), .inr (false, (0, .ofNat 0))), (78, (0, .ofNat 8), .inr (false, (0, .ofNat 0)))], []), ((0, 4, .ofNat 600), (0, 0, .ofNat 0), (0, 0, .ofNat 0)), 0, 0)]
set_option maxRecDepth 1000000 in
theorem cv1968 {gh : sxGh} (hg : sxGd sxKw gh) : sxCtV sxKw gh ct1968 := sxMeB_ok (cts := [ct1947, ct1967]) (cuts := cu1968) (sp := []) 100 (by decide +kernel) hg (by decide) (by decide) (List.forall_mem_cons.mpr ⟨cv1947 hg, (List.forall_mem_cons.mpr ⟨cv1967 hg, (fun _ h => absurd h List.not_mem_nil)⟩)⟩)
/-- LotBeliefsModel.question -/
def ct1969 : sxCt := (225, 25, (3, [(1, .negSucc 2147483647, .ofNat 2147483647), (2, .ofNat 0, .ofNat 600)], [], [(0, .inl 78), (1, .inr (false, (1, .ofNat 0)))], [], [(78, (0, .ofNat 1), .inr (false, (2, .ofNat 0)))], []), [(78, 1), (78, 2), (78, 3), (78, 4), (78, 5), (78, 6), (78, 7), (78, 8), (78, 9), (78, 21), (80, 0), (81, 0), (579, 5)], [
  (4, [(1, .ofNat 201, .ofNat 600), (2, .ofNat 201, .ofNat 600), (3, .negSucc 2147483647, .ofNat 2147483647)], [(1, 2, .ofNat 0)], [], [.inr (false, (0, .ofNat 0))], [(78, (0, .ofNat 0), .inr (false, (0, .ofNat 1))), (78, (0, .ofNat 1), .inr (false, (2, .ofNat 0))), (80, (0, .ofNat 1), .inr (false, (3, .ofNat 0)))], []), 
  (8, [(1, .ofNat 0, .ofNat 200), (2, .ofNat 0, .ofNat 600), (3, .negSucc 2147483647, .ofNat 2147483647), (4, .negSucc 0, .ofNat 600), (5, .ofNat 0, .ofNat 600), (6, .ofNat 0, .ofNat 4), (7, .ofNat 0, .ofNat 6)], [(1, 2, .ofNat 0)], [], [.inr (false, (3, .ofNat 0))], [(78, (0, .ofNat 0), .inr (false, (0, .ofNat 0))), (78, (0, .ofNat 1), .inr (false, (0, .ofNat 0))), (78, (0, .ofNat 2), .inr (false, (1, .ofNat 0))), (78, (0, .ofNat 3), .inr (false, (4, .ofNat 0))), (78, (0, .ofNat 4), .inr (false, (5, .ofNat 0))), (78, (0, .ofNat 5), .inr (false, (6, .ofNat 0))), (78, (0, .ofNat 6), .inr (false, (4, .ofNat 0))), (78, (0, .ofNat 7), .inr (false, (0, .ofNat 0))), (78, (0, .ofNat 8), .inr (false, (0, .ofNat 0))), (81, (0, .ofNat 0), .inr (false, (7, .ofNat 0)))], []), 
  (4, [(1, .ofNat 1, .ofNat 2147483647), (2, .ofNat 0, .ofNat 600), (3, .negSucc 2147483647, .ofNat 2147483647)], [(2, 1, .negSucc 0)], [], [.inr (false, (0, .ofNat 0))], [(78, (0, .ofNat 0), .inr (false, (0, .ofNat 1))), (78, (0, .ofNat 1), .inr (false, (2, .ofNat 0))), (80, (0, .ofNat 1), .inr (false, (3, .ofNat 0)))], []), 
  (4, [(1, .negSucc 2147483647, .negSucc 0), (2, .ofNat 0, .ofNat 600), (3, .negSucc 2147483647, .ofNat 2147483647)], [(1, 2, .ofNat 0)], [], [.inr (false, (0, .ofNat 0))], [(78, (0, .ofNat 0), .inr (false, (0, .ofNat 1))), (78, (0, .ofNat 1), .inr (false, (2, .ofNat 0))), (80, (0, .ofNat 1), .inr (false, (3, .ofNat 0)))], [])], [], 0, 0)
def cu1969 : List sxCu := []
set_option maxRecDepth 1000000 in
theorem cv1969 {gh : sxGh} (hg : sxGd sxKw gh) : sxCtV sxKw gh ct1969 := sxMeB_ok (cts := [ct1717, ct1933, ct1968, ct93]) (cuts := cu1969) (sp := []) 301 (by decide +kernel) hg (by decide) (by decide) (List.forall_mem_cons.mpr ⟨cv1717 hg, (List.forall_mem_cons.mpr ⟨cv1933 hg, (List.forall_mem_cons.mpr ⟨cv1968 hg, (List.forall_mem_cons.mpr ⟨cv93 hg, (fun _ h => absurd h List.not_mem_nil)⟩)⟩)⟩)⟩)
/-- LotBeliefs.Jar.clear -/
def ct1970 : sxCt := (16, 1, (1, [], [], [(0, .inl 11)], [], [], []), [(11, 1), (11, 2), (11, 3), (11, 4), (11, 5), (11, 6), (11, 7), (12, 0)], [
  (1, [], [], [], [], [(11, (0, .ofNat 0), .inr (false, (0, .ofNat 4))), (11, (0, .ofNat 1), .inr (true, (0, .ofNat 65535))), (11, (0, .ofNat 2), .inr (false, (0, .ofNat 0))), (11, (0, .ofNat 3), .inr (false, (0, .ofNat 0))), (11, (0, .ofNat 4), .inr (false, (0, .ofNat 0))), (11, (0, .ofNat 5), .inr (false, (0, .ofNat 0))), (11, (0, .ofNat 6), .inr (false, (0, .ofNat 0)))], [])], [], 0, 0)
def cu1970 : List sxCu := [
  (7, (2, [(1, .ofNat 0, .ofNat 17)], [], [(0, .inl 11), (1, .inr (false, (1, .ofNat 0)))], [], [(11, (0, .ofNat 0), .inr (false, (0, .ofNat 4))), (11, (0, .ofNat 1), .inr (true, (0, .ofNat 65535)))], []), ((0, 1, .ofNat 17), (0, 0, .ofNat 0), (0, 0, .ofNat 0)), 0, 0)]
set_option maxRecDepth 1000000 in
theorem cv1970 {gh : sxGh} (hg : sxGd sxKw gh) : sxCtV sxKw gh ct1970 := sxMeB_ok (cts := []) (cuts := cu1970) (sp := []) 107 (by decide +kernel) hg (by decide) (by decide) (fun _ h => absurd h List.not_mem_nil)
/-- LotBeliefs.Tape.isWord -/
def ct1971 : sxCt := (85, 0, (1, [], [], [(0, .inl 1), (1, .inl 1000001)], [], [], []), [], [
  (1, [], [], [], [.inr (false, (0, .ofNat 0))], [], []), 
  (1, [], [], [], [.inr (false, (0, .ofNat 1))], [], [])], [], 0, 0)
def cu1971 : List sxCu := []
set_option maxRecDepth 1000000 in
theorem cv1971 {gh : sxGh} (hg : sxGd sxKw gh) : sxCtV sxKw gh ct1971 := sxMeB_ok (cts := []) (cuts := cu1971) (sp := []) 204 (by decide +kernel) hg (by decide) (by decide) (fun _ h => absurd h List.not_mem_nil)
/-- LotBeliefs.JarReader.readSlip -/
def ct1972 : sxCt := (37, 30, (2, [(1, .ofNat 0, .ofNat 1)], [], [(0, .inl 1), (1, .inl 11), (2, .inr (false, (1, .ofNat 0)))], [], [(1, (0, .ofNat 7), .inr (false, (0, .ofNat 0)))], []), [(1, 4), (1, 5), (1, 6), (1, 7), (1, 8), (1, 9), (1, 10), (11, 3), (12, 0)], [
  (3, [(1, .ofNat 0, .ofNat 1), (2, .ofNat 0, .ofNat 4)], [], [], [], [(1, (0, .ofNat 3), .inr (false, (2, .ofNat 0))), (1, (0, .ofNat 7), .inr (false, (0, .ofNat 0)))], [])], [], 0, 0)
def cu1972 : List sxCu := []
set_option maxRecDepth 1000000 in
theorem cv1972 {gh : sxGh} (hg : sxGd sxKw gh) : sxCtV sxKw gh ct1972 := sxMeB_ok (cts := [ct1879, ct1596]) (cuts := cu1972) (sp := []) 172 (by decide +kernel) hg (by decide) (by decide) (List.forall_mem_cons.mpr ⟨cv1879 hg, (List.forall_mem_cons.mpr ⟨cv1596 hg, (fun _ h => absurd h List.not_mem_nil)⟩)⟩)
/-- LotBeliefs.Tape.isWord -/
def ct1973 : sxCt := (85, 0, (1, [], [], [(0, .inl 1), (1, .inl 1000007)], [], [], []), [], [
  (1, [], [], [], [.inr (false, (0, .ofNat 0))], [], []), 
  (1, [], [], [], [.inr (false, (0, .ofNat 1))], [], [])], [], 0, 0)
def cu1973 : List sxCu := []
set_option maxRecDepth 1000000 in
theorem cv1973 {gh : sxGh} (hg : sxGd sxKw gh) : sxCtV sxKw gh ct1973 := sxMeB_ok (cts := []) (cuts := cu1973) (sp := []) 174 (by decide +kernel) hg (by decide) (by decide) (fun _ h => absurd h List.not_mem_nil)
/-- LotBeliefs.JarReader.readSeeing -/
def ct1974 : sxCt := (39, 30, (2, [(1, .ofNat 0, .ofNat 1)], [], [(0, .inl 1), (1, .inl 11), (2, .inr (false, (1, .ofNat 0)))], [], [(1, (0, .ofNat 7), .inr (false, (0, .ofNat 0)))], []), [(1, 4), (1, 5), (1, 6), (1, 7), (1, 8), (1, 9), (1, 10), (11, 4), (14, 0), (15, 0)], [
  (3, [(1, .ofNat 0, .ofNat 1), (2, .ofNat 0, .ofNat 4)], [], [], [], [(1, (0, .ofNat 3), .inr (false, (2, .ofNat 0))), (1, (0, .ofNat 7), .inr (false, (0, .ofNat 0)))], [])], [], 0, 0)
def cu1974 : List sxCu := []
set_option maxRecDepth 1000000 in
theorem cv1974 {gh : sxGh} (hg : sxGd sxKw gh) : sxCtV sxKw gh ct1974 := sxMeB_ok (cts := [ct1879, ct1596]) (cuts := cu1974) (sp := []) 338 (by decide +kernel) hg (by decide) (by decide) (List.forall_mem_cons.mpr ⟨cv1879 hg, (List.forall_mem_cons.mpr ⟨cv1596 hg, (fun _ h => absurd h List.not_mem_nil)⟩)⟩)
/-- LotBeliefs.Tape.isWord -/
def ct1975 : sxCt := (85, 0, (1, [], [], [(0, .inl 1), (1, .inl 1000008)], [], [], []), [], [
  (1, [], [], [], [.inr (false, (0, .ofNat 0))], [], []), 
  (1, [], [], [], [.inr (false, (0, .ofNat 1))], [], [])], [], 0, 0)
def cu1975 : List sxCu := []
set_option maxRecDepth 1000000 in
theorem cv1975 {gh : sxGh} (hg : sxGd sxKw gh) : sxCtV sxKw gh ct1975 := sxMeB_ok (cts := []) (cuts := cu1975) (sp := []) 204 (by decide +kernel) hg (by decide) (by decide) (fun _ h => absurd h List.not_mem_nil)
/-- LotBeliefs.JarReader.readSalt -/
def ct1976 : sxCt := (38, 30, (2, [(1, .ofNat 0, .ofNat 1)], [], [(0, .inl 1), (1, .inl 11), (2, .inr (false, (1, .ofNat 0)))], [], [(1, (0, .ofNat 7), .inr (false, (0, .ofNat 0)))], []), [(1, 4), (1, 5), (1, 6), (1, 7), (1, 8), (1, 9), (1, 10), (11, 5), (12, 0)], [
  (3, [(1, .ofNat 0, .ofNat 1), (2, .ofNat 0, .ofNat 4)], [], [], [], [(1, (0, .ofNat 3), .inr (false, (2, .ofNat 0))), (1, (0, .ofNat 7), .inr (false, (0, .ofNat 0)))], [])], [], 0, 0)
def cu1976 : List sxCu := []
set_option maxRecDepth 1000000 in
theorem cv1976 {gh : sxGh} (hg : sxGd sxKw gh) : sxCtV sxKw gh ct1976 := sxMeB_ok (cts := [ct1879, ct1596]) (cuts := cu1976) (sp := []) 174 (by decide +kernel) hg (by decide) (by decide) (List.forall_mem_cons.mpr ⟨cv1879 hg, (List.forall_mem_cons.mpr ⟨cv1596 hg, (fun _ h => absurd h List.not_mem_nil)⟩)⟩)
/-- LotBeliefs.Tape.isWord -/
def ct1977 : sxCt := (85, 0, (1, [], [], [(0, .inl 1), (1, .inl 1000009)], [], [], []), [], [
  (1, [], [], [], [.inr (false, (0, .ofNat 0))], [], []), 
  (1, [], [], [], [.inr (false, (0, .ofNat 1))], [], [])], [], 0, 0)
def cu1977 : List sxCu := []
set_option maxRecDepth 1000000 in
theorem cv1977 {gh : sxGh} (hg : sxGd sxKw gh) : sxCtV sxKw gh ct1977 := sxMeB_ok (cts := []) (cuts := cu1977) (sp := []) 234 (by decide +kernel) hg (by decide) (by decide) (fun _ h => absurd h List.not_mem_nil)
/-- LotBeliefs.JarReader.readWorld -/
def ct1978 : sxCt := (35, 2, (2, [(1, .ofNat 0, .ofNat 1)], [], [(0, .inl 1), (1, .inl 11), (2, .inr (false, (1, .ofNat 0)))], [], [(1, (0, .ofNat 7), .inr (false, (0, .ofNat 0)))], []), [(1, 4), (1, 5), (1, 6), (1, 7), (1, 9), (1, 10), (11, 6)], [
  (3, [(1, .ofNat 0, .ofNat 1), (2, .ofNat 0, .ofNat 4)], [], [], [], [(1, (0, .ofNat 3), .inr (false, (2, .ofNat 0))), (1, (0, .ofNat 7), .inr (false, (0, .ofNat 0)))], [])], [], 0, 0)
def cu1978 : List sxCu := []
set_option maxRecDepth 1000000 in
theorem cv1978 {gh : sxGh} (hg : sxGd sxKw gh) : sxCtV sxKw gh ct1978 := sxMeB_ok (cts := [ct1596]) (cuts := cu1978) (sp := []) 216 (by decide +kernel) hg (by decide) (by decide) (List.forall_mem_cons.mpr ⟨cv1596 hg, (fun _ h => absurd h List.not_mem_nil)⟩)
/-- LotBeliefs.Tape.isWord -/
def ct1979 : sxCt := (85, 0, (1, [], [], [(0, .inl 1), (1, .inl 1000010)], [], [], []), [], [
  (1, [], [], [], [.inr (false, (0, .ofNat 0))], [], []), 
  (1, [], [], [], [.inr (false, (0, .ofNat 1))], [], [])], [], 0, 0)
def cu1979 : List sxCu := []
set_option maxRecDepth 1000000 in
theorem cv1979 {gh : sxGh} (hg : sxGd sxKw gh) : sxCtV sxKw gh ct1979 := sxMeB_ok (cts := []) (cuts := cu1979) (sp := []) 174 (by decide +kernel) hg (by decide) (by decide) (fun _ h => absurd h List.not_mem_nil)
/-- LotBeliefs.JarReader.readLaw -/
def ct1980 : sxCt := (36, 2, (2, [(1, .ofNat 0, .ofNat 1)], [], [(0, .inl 1), (1, .inl 11), (2, .inr (false, (1, .ofNat 0)))], [], [(1, (0, .ofNat 7), .inr (false, (0, .ofNat 0)))], []), [(1, 4), (1, 5), (1, 6), (1, 7), (1, 9), (1, 10), (11, 7)], [
  (3, [(1, .ofNat 0, .ofNat 1), (2, .ofNat 0, .ofNat 4)], [], [], [], [(1, (0, .ofNat 3), .inr (false, (2, .ofNat 0))), (1, (0, .ofNat 7), .inr (false, (0, .ofNat 0)))], [])], [], 0, 0)
def cu1980 : List sxCu := []
set_option maxRecDepth 1000000 in
theorem cv1980 {gh : sxGh} (hg : sxGd sxKw gh) : sxCtV sxKw gh ct1980 := sxMeB_ok (cts := [ct1596]) (cuts := cu1980) (sp := []) 211 (by decide +kernel) hg (by decide) (by decide) (List.forall_mem_cons.mpr ⟨cv1596 hg, (fun _ h => absurd h List.not_mem_nil)⟩)
/-- LotBeliefs.Tape.isWord -/
def ct1981 : sxCt := (85, 0, (1, [], [], [(0, .inl 1), (1, .inl 1000011)], [], [], []), [], [
  (1, [], [], [], [.inr (false, (0, .ofNat 0))], [], []), 
  (1, [], [], [], [.inr (false, (0, .ofNat 1))], [], [])], [], 0, 0)
def cu1981 : List sxCu := []
set_option maxRecDepth 1000000 in
theorem cv1981 {gh : sxGh} (hg : sxGd sxKw gh) : sxCtV sxKw gh ct1981 := sxMeB_ok (cts := []) (cuts := cu1981) (sp := []) 234 (by decide +kernel) hg (by decide) (by decide) (fun _ h => absurd h List.not_mem_nil)
/-- LotBeliefs.JarReader.readAtoms -/
def ct1982 : sxCt := (34, 2, (3, [(1, .ofNat 0, .ofNat 1), (2, .ofNat 0, .ofNat 1)], [], [(0, .inl 1), (1, .inl 11), (2, .inr (false, (1, .ofNat 0))), (3, .inr (false, (2, .ofNat 0)))], [], [(1, (0, .ofNat 7), .inr (false, (0, .ofNat 0)))], []), [(1, 4), (1, 5), (1, 6), (1, 7), (1, 9), (1, 10), (11, 1), (11, 2)], [
  (4, [(1, .ofNat 0, .ofNat 1), (2, .ofNat 0, .ofNat 1), (3, .ofNat 0, .ofNat 4)], [], [], [], [(1, (0, .ofNat 3), .inr (false, (3, .ofNat 0))), (1, (0, .ofNat 7), .inr (false, (0, .ofNat 0)))], [])], [], 0, 0)
def cu1982 : List sxCu := []
set_option maxRecDepth 1000000 in
theorem cv1982 {gh : sxGh} (hg : sxGd sxKw gh) : sxCtV sxKw gh ct1982 := sxMeB_ok (cts := [ct1596]) (cuts := cu1982) (sp := []) 361 (by decide +kernel) hg (by decide) (by decide) (List.forall_mem_cons.mpr ⟨cv1596 hg, (fun _ h => absurd h List.not_mem_nil)⟩)
/-- LotBeliefs.JarReader.readClause -/
def ct1983 : sxCt := (32, 31, (3, [(1, .ofNat 0, .ofNat 1), (2, .ofNat 0, .ofNat 1)], [], [(0, .inl 1), (1, .inl 11), (2, .inr (false, (1, .ofNat 0))), (3, .inr (false, (2, .ofNat 0)))], [], [(1, (0, .ofNat 7), .inr (false, (0, .ofNat 0)))], []), [(1, 4), (1, 5), (1, 6), (1, 7), (1, 8), (1, 9), (1, 10), (11, 1), (11, 2), (11, 3), (11, 4), (11, 5), (11, 6), (11, 7), (12, 0), (14, 0), (15, 0)], [
  (4, [(1, .ofNat 0, .ofNat 1), (2, .ofNat 0, .ofNat 1), (3, .ofNat 0, .ofNat 4)], [], [], [], [(1, (0, .ofNat 3), .inr (false, (3, .ofNat 0))), (1, (0, .ofNat 7), .inr (false, (0, .ofNat 0)))], [])], [], 0, 0)
def cu1983 : List sxCu := []
set_option maxRecDepth 1000000 in
theorem cv1983 {gh : sxGh} (hg : sxGd sxKw gh) : sxCtV sxKw gh ct1983 := sxMeB_ok (cts := [ct1982, ct1978, ct1980, ct1972, ct1976, ct1974, ct1971, ct1973, ct1975, ct1977, ct1979, ct1981]) (cuts := cu1983) (sp := []) 160 (by decide +kernel) hg (by decide) (by decide) (List.forall_mem_cons.mpr ⟨cv1982 hg, (List.forall_mem_cons.mpr ⟨cv1978 hg, (List.forall_mem_cons.mpr ⟨cv1980 hg, (List.forall_mem_cons.mpr ⟨cv1972 hg, (List.forall_mem_cons.mpr ⟨cv1976 hg, (List.forall_mem_cons.mpr ⟨cv1974 hg, (List.forall_mem_cons.mpr ⟨cv1971 hg, (List.forall_mem_cons.mpr ⟨cv1973 hg, (List.forall_mem_cons.mpr ⟨cv1975 hg, (List.forall_mem_cons.mpr ⟨cv1977 hg, (List.forall_mem_cons.mpr ⟨cv1979 hg, (List.forall_mem_cons.mpr ⟨cv1981 hg, (fun _ h => absurd h List.not_mem_nil)⟩)⟩)⟩)⟩)⟩)⟩)⟩)⟩)⟩)⟩)⟩)⟩)
/-- LotBeliefs.Jar.deadIn -/
def ct1985 : sxCt := (20, 0, (2, [(1, .ofNat 0, .ofNat 1)], [], [(0, .inl 11), (1, .inr (false, (1, .ofNat 0)))], [], [], []), [], [
  (3, [(1, .ofNat 0, .ofNat 1), (2, .ofNat 0, .ofNat 2147483647)], [], [], [.inr (false, (2, .ofNat 0))], [], [])], [], 0, 0)
def cu1985 : List sxCu := [
  (4, (4, [(1, .ofNat 0, .ofNat 1), (2, .ofNat 0, .ofNat 2147483647), (3, .ofNat 0, .ofNat 17)], [], [(0, .inl 11), (1, .inr (false, (1, .ofNat 0))), (2, .inr (false, (2, .ofNat 0))), (3, .inr (false, (3, .ofNat 0)))], [], [], []), ((0, 3, .ofNat 17), (0, 0, .ofNat 0), (0, 0, .ofNat 0)), 0, 0)]
set_option maxRecDepth 1000000 in
theorem cv1985 {gh : sxGh} (hg : sxGd sxKw gh) : sxCtV sxKw gh ct1985 := sxMeB_ok (cts := []) (cuts := cu1985) (sp := []) 95 (by decide +kernel) hg (by decide) (by decide) (fun _ h => absurd h List.not_mem_nil)
/-- LotBeliefs.Jar.foesIn -/
def ct2034 : sxCt := (21, 1, (3, [(1, .ofNat 0, .ofNat 16), (2, .ofNat 0, .ofNat 16)], [], [(0, .inl 11), (1, .inr (false, (1, .ofNat 0))), (2, .inr (false, (2, .ofNat 0)))], [], [], []), [], [
  (4, [(1, .ofNat 0, .ofNat 16), (2, .ofNat 0, .ofNat 16), (3, .ofNat 0, .ofNat 2147483647)], [], [], [.inr (false, (3, .ofNat 0))], [], [])], [], 0, 0)
def cu2034 : List sxCu := [
  (5, (5, [(1, .ofNat 0, .ofNat 16), (2, .ofNat 0, .ofNat 16), (3, .ofNat 0, .ofNat 2147483647), (4, .ofNat 0, .ofNat 17)], [], [(0, .inl 11), (1, .inr (false, (1, .ofNat 0))), (2, .inr (false, (2, .ofNat 0))), (3, .inr (false, (3, .ofNat 0))), (4, .inr (false, (4, .ofNat 0)))], [], [], []), ((0, 4, .ofNat 17), (0, 0, .ofNat 0), (0, 0, .ofNat 0)), 0, 0)]
set_option maxRecDepth 1000000 in
theorem cv2034 {gh : sxGh} (hg : sxGd sxKw gh) : sxCtV sxKw gh ct2034 := sxMeB_ok (cts := []) (cuts := cu2034) (sp := []) 115 (by decide +kernel) hg (by decide) (by decide) (fun _ h => absurd h List.not_mem_nil)
/-- LotBeliefs.Jar.leftBy -/
def ct2041 : sxCt := (19, 0, (2, [(1, .ofNat 0, .ofNat 51)], [], [(0, .inl 11), (1, .inr (false, (1, .ofNat 0)))], [], [], []), [], [
  (3, [(1, .ofNat 0, .ofNat 51), (2, .negSucc 9223372036854775807, .ofNat 9223372036854775807)], [], [], [.inr (true, (2, .ofNat 0))], [], [])], [], 0, 0)
def cu2041 : List sxCu := [
  (8, (5, [(1, .ofNat 0, .ofNat 51), (2, .negSucc 9223372036854775807, .ofNat 9223372036854775807), (3, .ofNat 0, .ofNat 12), (4, .negSucc 9223372036854775807, .ofNat 9223372036854775807)], [], [(0, .inl 11), (1, .inr (false, (1, .ofNat 0))), (2, .inr (true, (2, .ofNat 0))), (4, .inr (false, (3, .ofNat 0)))], [], [(11, (0, .ofNat 1), .inr (true, (4, .ofNat 0)))], []), ((0, 3, .ofNat 12), (0, 0, .ofNat 0), (0, 0, .ofNat 0)), 0, 0)]
set_option maxRecDepth 1000000 in
theorem cv2041 {gh : sxGh} (hg : sxGd sxKw gh) : sxCtV sxKw gh ct2041 := sxMeB_ok (cts := []) (cuts := cu2041) (sp := []) 88 (by decide +kernel) hg (by decide) (by decide) (fun _ h => absurd h List.not_mem_nil)
/-- LotBeliefs.Jar.deadIn -/
def ct2042 : sxCt := (20, 0, (2, [(1, .ofNat 0, .ofNat 51)], [], [(0, .inl 11), (1, .inr (false, (1, .ofNat 0)))], [], [], []), [], [
  (3, [(1, .ofNat 0, .ofNat 51), (2, .ofNat 0, .ofNat 2147483647)], [], [], [.inr (false, (2, .ofNat 0))], [], [])], [], 0, 0)
def cu2042 : List sxCu := [
  (4, (4, [(1, .ofNat 0, .ofNat 51), (2, .ofNat 0, .ofNat 2147483647), (3, .ofNat 0, .ofNat 17)], [], [(0, .inl 11), (1, .inr (false, (1, .ofNat 0))), (2, .inr (false, (2, .ofNat 0))), (3, .inr (false, (3, .ofNat 0)))], [], [], []), ((0, 3, .ofNat 17), (0, 0, .ofNat 0), (0, 0, .ofNat 0)), 0, 0)]
set_option maxRecDepth 1000000 in
theorem cv2042 {gh : sxGh} (hg : sxGd sxKw gh) : sxCtV sxKw gh ct2042 := sxMeB_ok (cts := []) (cuts := cu2042) (sp := []) 95 (by decide +kernel) hg (by decide) (by decide) (fun _ h => absurd h List.not_mem_nil)
/-- LotBeliefs.Jar.settle -/
def ct2043 : sxCt := (18, 2, (1, [], [], [(0, .inl 11)], [], [], []), [(13, 0), (16, 0), (17, 0), (18, 0)], [
  (1, [], [], [], [], [], [])], [], 0, 0)
def cu2043 : List sxCu := [
  (104, (3, [(1, .ofNat 1, .ofNat 51), (2, .ofNat 0, .ofNat 17)], [], [(0, .inl 11), (1, .inr (false, (1, .ofNat 0))), (2, .inr (false, (0, .ofNat 0))), (3, .inr (false, (2, .ofNat 0)))], [], [(11, (0, .ofNat 11), .inl 16), (11, (0, .ofNat 12), .inl 17)], []), ((0, 1, .ofNat 52), (0, 2, .ofNat 17), (0, 0, .ofNat 0)), 0, 0), 
  (104, (3, [(1, .ofNat 0, .ofNat 51), (2, .ofNat 0, .ofNat 17)], [], [(0, .inl 11), (1, .inr (false, (1, .ofNat 0))), (2, .inr (false, (0, .ofNat 1))), (3, .inr (false, (2, .ofNat 0)))], [], [(11, (0, .ofNat 11), .inl 16), (11, (0, .ofNat 12), .inl 17)], []), ((0, 1, .ofNat 52), (0, 2, .ofNat 17), (0, 0, .ofNat 0)), 0, 0), 
  (2, (2, [(1, .ofNat 0, .ofNat 17)], [], [(0, .inl 11), (1, .inr (false, (1, .ofNat 0)))], [], [], []), ((0, 1, .ofNat 70), (0, 0, .ofNat 0), (0, 0, .ofNat 0)), 0, 0), 
  (31, (2, [(1, .ofNat 0, .ofNat 52)], [], [(0, .inl 11), (1, .inr (false, (1, .ofNat 0)))], [], [], []), ((0, 1, .ofNat 52), (0, 0, .ofNat 18), (0, 0, .ofNat 0)), 0, 0)]
set_option maxRecDepth 1000000 in
theorem cv2043 {gh : sxGh} (hg : sxGd sxKw gh) : sxCtV sxKw gh ct2043 := sxMeB_ok (cts := [ct2041, ct1985, ct2042, ct2034, ct24]) (cuts := cu2043) (sp := []) 231 (by decide +kernel) hg (by decide) (by decide) (List.forall_mem_cons.mpr ⟨cv2041 hg, (List.forall_mem_cons.mpr ⟨cv1985 hg, (List.forall_mem_cons.mpr ⟨cv2042 hg, (List.forall_mem_cons.mpr ⟨cv2034 hg, (List.forall_mem_cons.mpr ⟨cv24 hg, (fun _ h => absurd h List.not_mem_nil)⟩)⟩)⟩)⟩)⟩)
/-- LotBeliefs.JarReader.read -/
def ct2044 : sxCt := (31, 32, (1, [], [], [(0, .inl 1), (1, .inl 11)], [], [(1, (0, .ofNat 7), .inr (false, (0, .ofNat 0)))], []), [(1, 4), (1, 5), (1, 6), (1, 7), (1, 8), (1, 9), (1, 10), (11, 1), (11, 2), (11, 3), (11, 4), (11, 5), (11, 6), (11, 7), (12, 0), (13, 0), (14, 0), (15, 0), (16, 0), (17, 0), (18, 0)], [
  (1, [], [], [], [], [(1, (0, .ofNat 7), .inr (false, (0, .ofNat 0)))], [])], [], 0, 0)
def cu2044 : List sxCu := [
  (6, (2, [(1, .ofNat 0, .ofNat 63)], [], [(0, .inl 1), (1, .inl 11), (2, .inr (false, (1, .ofNat 0)))], [], [(1, (0, .ofNat 7), .inr (false, (0, .ofNat 0)))], []), ((0, 1, .ofNat 63), (0, 0, .ofNat 0), (0, 0, .ofNat 0)), 0, 0)]
set_option maxRecDepth 1000000 in
theorem cv2044 {gh : sxGh} (hg : sxGd sxKw gh) : sxCtV sxKw gh ct2044 := sxMeB_ok (cts := [ct1970, ct2043, ct1983, ct1596]) (cuts := cu2044) (sp := []) 353 (by decide +kernel) hg (by decide) (by decide) (List.forall_mem_cons.mpr ⟨cv1970 hg, (List.forall_mem_cons.mpr ⟨cv2043 hg, (List.forall_mem_cons.mpr ⟨cv1983 hg, (List.forall_mem_cons.mpr ⟨cv1596 hg, (fun _ h => absurd h List.not_mem_nil)⟩)⟩)⟩)⟩)
/-- LotBeliefs.Setting.begin -/
def ct2045 : sxCt := (49, 0, (1, [], [], [(0, .inl 27), (1, .inl 11)], [], [], []), [(27, 2), (27, 3), (28, 0)], [
  (3, [(1, .ofNat 0, .ofNat 4), (2, .ofNat 0, .ofNat 63)], [], [], [], [(27, (0, .ofNat 1), .inr (false, (1, .ofNat 0))), (27, (0, .ofNat 2), .inr (false, (2, .ofNat 0)))], [])], [], 0, 0)
def cu2045 : List sxCu := [
  (2, (2, [(1, .ofNat 0, .ofNat 12)], [], [(0, .inl 27), (1, .inl 11), (2, .inr (false, (1, .ofNat 0)))], [], [], []), ((0, 1, .ofNat 12), (0, 0, .ofNat 0), (0, 0, .ofNat 0)), 0, 0)]
set_option maxRecDepth 1000000 in
theorem cv2045 {gh : sxGh} (hg : sxGd sxKw gh) : sxCtV sxKw gh ct2045 := sxMeB_ok (cts := []) (cuts := cu2045) (sp := []) 83 (by decide +kernel) hg (by decide) (by decide) (fun _ h => absurd h List.not_mem_nil)
/-- LotBeliefs.Jar.clear -/
def ct2046 : sxCt := (16, 1, (1, [], [], [(0, .inl 3)], [], [], []), [(3, 1), (3, 2), (3, 3), (3, 4), (3, 5), (3, 6), (3, 7), (4, 0)], [
  (1, [], [], [], [], [(3, (0, .ofNat 0), .inr (false, (0, .ofNat 4))), (3, (0, .ofNat 1), .inr (true, (0, .ofNat 65535))), (3, (0, .ofNat 2), .inr (false, (0, .ofNat 0))), (3, (0, .ofNat 3), .inr (false, (0, .ofNat 0))), (3, (0, .ofNat 4), .inr (false, (0, .ofNat 0))), (3, (0, .ofNat 5), .inr (false, (0, .ofNat 0))), (3, (0, .ofNat 6), .inr (false, (0, .ofNat 0)))], [])], [], 0, 0)
def cu2046 : List sxCu := [
  (7, (2, [(1, .ofNat 0, .ofNat 17)], [], [(0, .inl 3), (1, .inr (false, (1, .ofNat 0)))], [], [(3, (0, .ofNat 0), .inr (false, (0, .ofNat 4))), (3, (0, .ofNat 1), .inr (true, (0, .ofNat 65535)))], []), ((0, 1, .ofNat 17), (0, 0, .ofNat 0), (0, 0, .ofNat 0)), 0, 0)]
set_option maxRecDepth 1000000 in
theorem cv2046 {gh : sxGh} (hg : sxGd sxKw gh) : sxCtV sxKw gh ct2046 := sxMeB_ok (cts := []) (cuts := cu2046) (sp := []) 107 (by decide +kernel) hg (by decide) (by decide) (fun _ h => absurd h List.not_mem_nil)
/-- LotBeliefs.JarReader.readSlip -/
def ct2047 : sxCt := (37, 30, (2, [(1, .ofNat 0, .ofNat 1)], [], [(0, .inl 1), (1, .inl 3), (2, .inr (false, (1, .ofNat 0)))], [], [(1, (0, .ofNat 7), .inr (false, (0, .ofNat 0)))], []), [(1, 4), (1, 5), (1, 6), (1, 7), (1, 8), (1, 9), (1, 10), (3, 3), (4, 0)], [
  (3, [(1, .ofNat 0, .ofNat 1), (2, .ofNat 0, .ofNat 4)], [], [], [], [(1, (0, .ofNat 3), .inr (false, (2, .ofNat 0))), (1, (0, .ofNat 7), .inr (false, (0, .ofNat 0)))], [])], [], 0, 0)
def cu2047 : List sxCu := []
set_option maxRecDepth 1000000 in
theorem cv2047 {gh : sxGh} (hg : sxGd sxKw gh) : sxCtV sxKw gh ct2047 := sxMeB_ok (cts := [ct1929, ct1596]) (cuts := cu2047) (sp := []) 172 (by decide +kernel) hg (by decide) (by decide) (List.forall_mem_cons.mpr ⟨cv1929 hg, (List.forall_mem_cons.mpr ⟨cv1596 hg, (fun _ h => absurd h List.not_mem_nil)⟩)⟩)
/-- LotBeliefs.JarReader.readSeeing -/
def ct2048 : sxCt := (39, 30, (2, [(1, .ofNat 0, .ofNat 1)], [], [(0, .inl 1), (1, .inl 3), (2, .inr (false, (1, .ofNat 0)))], [], [(1, (0, .ofNat 7), .inr (false, (0, .ofNat 0)))], []), [(1, 4), (1, 5), (1, 6), (1, 7), (1, 8), (1, 9), (1, 10), (3, 4), (6, 0), (7, 0)], [
  (3, [(1, .ofNat 0, .ofNat 1), (2, .ofNat 0, .ofNat 4)], [], [], [], [(1, (0, .ofNat 3), .inr (false, (2, .ofNat 0))), (1, (0, .ofNat 7), .inr (false, (0, .ofNat 0)))], [])], [], 0, 0)
def cu2048 : List sxCu := []
set_option maxRecDepth 1000000 in
theorem cv2048 {gh : sxGh} (hg : sxGd sxKw gh) : sxCtV sxKw gh ct2048 := sxMeB_ok (cts := [ct1929, ct1596]) (cuts := cu2048) (sp := []) 338 (by decide +kernel) hg (by decide) (by decide) (List.forall_mem_cons.mpr ⟨cv1929 hg, (List.forall_mem_cons.mpr ⟨cv1596 hg, (fun _ h => absurd h List.not_mem_nil)⟩)⟩)
/-- LotBeliefs.JarReader.readSalt -/
def ct2049 : sxCt := (38, 30, (2, [(1, .ofNat 0, .ofNat 1)], [], [(0, .inl 1), (1, .inl 3), (2, .inr (false, (1, .ofNat 0)))], [], [(1, (0, .ofNat 7), .inr (false, (0, .ofNat 0)))], []), [(1, 4), (1, 5), (1, 6), (1, 7), (1, 8), (1, 9), (1, 10), (3, 5), (4, 0)], [
  (3, [(1, .ofNat 0, .ofNat 1), (2, .ofNat 0, .ofNat 4)], [], [], [], [(1, (0, .ofNat 3), .inr (false, (2, .ofNat 0))), (1, (0, .ofNat 7), .inr (false, (0, .ofNat 0)))], [])], [], 0, 0)
def cu2049 : List sxCu := []
set_option maxRecDepth 1000000 in
theorem cv2049 {gh : sxGh} (hg : sxGd sxKw gh) : sxCtV sxKw gh ct2049 := sxMeB_ok (cts := [ct1929, ct1596]) (cuts := cu2049) (sp := []) 174 (by decide +kernel) hg (by decide) (by decide) (List.forall_mem_cons.mpr ⟨cv1929 hg, (List.forall_mem_cons.mpr ⟨cv1596 hg, (fun _ h => absurd h List.not_mem_nil)⟩)⟩)
/-- LotBeliefs.JarReader.readWorld -/
def ct2050 : sxCt := (35, 2, (2, [(1, .ofNat 0, .ofNat 1)], [], [(0, .inl 1), (1, .inl 3), (2, .inr (false, (1, .ofNat 0)))], [], [(1, (0, .ofNat 7), .inr (false, (0, .ofNat 0)))], []), [(1, 4), (1, 5), (1, 6), (1, 7), (1, 9), (1, 10), (3, 6)], [
  (3, [(1, .ofNat 0, .ofNat 1), (2, .ofNat 0, .ofNat 4)], [], [], [], [(1, (0, .ofNat 3), .inr (false, (2, .ofNat 0))), (1, (0, .ofNat 7), .inr (false, (0, .ofNat 0)))], [])], [], 0, 0)
def cu2050 : List sxCu := []
set_option maxRecDepth 1000000 in
theorem cv2050 {gh : sxGh} (hg : sxGd sxKw gh) : sxCtV sxKw gh ct2050 := sxMeB_ok (cts := [ct1596]) (cuts := cu2050) (sp := []) 216 (by decide +kernel) hg (by decide) (by decide) (List.forall_mem_cons.mpr ⟨cv1596 hg, (fun _ h => absurd h List.not_mem_nil)⟩)
/-- LotBeliefs.JarReader.readLaw -/
def ct2051 : sxCt := (36, 2, (2, [(1, .ofNat 0, .ofNat 1)], [], [(0, .inl 1), (1, .inl 3), (2, .inr (false, (1, .ofNat 0)))], [], [(1, (0, .ofNat 7), .inr (false, (0, .ofNat 0)))], []), [(1, 4), (1, 5), (1, 6), (1, 7), (1, 9), (1, 10), (3, 7)], [
  (3, [(1, .ofNat 0, .ofNat 1), (2, .ofNat 0, .ofNat 4)], [], [], [], [(1, (0, .ofNat 3), .inr (false, (2, .ofNat 0))), (1, (0, .ofNat 7), .inr (false, (0, .ofNat 0)))], [])], [], 0, 0)
def cu2051 : List sxCu := []
set_option maxRecDepth 1000000 in
theorem cv2051 {gh : sxGh} (hg : sxGd sxKw gh) : sxCtV sxKw gh ct2051 := sxMeB_ok (cts := [ct1596]) (cuts := cu2051) (sp := []) 211 (by decide +kernel) hg (by decide) (by decide) (List.forall_mem_cons.mpr ⟨cv1596 hg, (fun _ h => absurd h List.not_mem_nil)⟩)
/-- LotBeliefs.JarReader.readAtoms -/
def ct2052 : sxCt := (34, 2, (3, [(1, .ofNat 0, .ofNat 1), (2, .ofNat 0, .ofNat 1)], [], [(0, .inl 1), (1, .inl 3), (2, .inr (false, (1, .ofNat 0))), (3, .inr (false, (2, .ofNat 0)))], [], [(1, (0, .ofNat 7), .inr (false, (0, .ofNat 0)))], []), [(1, 4), (1, 5), (1, 6), (1, 7), (1, 9), (1, 10), (3, 1), (3, 2)], [
  (4, [(1, .ofNat 0, .ofNat 1), (2, .ofNat 0, .ofNat 1), (3, .ofNat 0, .ofNat 4)], [], [], [], [(1, (0, .ofNat 3), .inr (false, (3, .ofNat 0))), (1, (0, .ofNat 7), .inr (false, (0, .ofNat 0)))], [])], [], 0, 0)
def cu2052 : List sxCu := []
set_option maxRecDepth 1000000 in
theorem cv2052 {gh : sxGh} (hg : sxGd sxKw gh) : sxCtV sxKw gh ct2052 := sxMeB_ok (cts := [ct1596]) (cuts := cu2052) (sp := []) 361 (by decide +kernel) hg (by decide) (by decide) (List.forall_mem_cons.mpr ⟨cv1596 hg, (fun _ h => absurd h List.not_mem_nil)⟩)
/-- LotBeliefs.JarReader.readClause -/
def ct2053 : sxCt := (32, 31, (3, [(1, .ofNat 0, .ofNat 1), (2, .ofNat 0, .ofNat 1)], [], [(0, .inl 1), (1, .inl 3), (2, .inr (false, (1, .ofNat 0))), (3, .inr (false, (2, .ofNat 0)))], [], [(1, (0, .ofNat 7), .inr (false, (0, .ofNat 0)))], []), [(1, 4), (1, 5), (1, 6), (1, 7), (1, 8), (1, 9), (1, 10), (3, 1), (3, 2), (3, 3), (3, 4), (3, 5), (3, 6), (3, 7), (4, 0), (6, 0), (7, 0)], [
  (4, [(1, .ofNat 0, .ofNat 1), (2, .ofNat 0, .ofNat 1), (3, .ofNat 0, .ofNat 4)], [], [], [], [(1, (0, .ofNat 3), .inr (false, (3, .ofNat 0))), (1, (0, .ofNat 7), .inr (false, (0, .ofNat 0)))], [])], [], 0, 0)
def cu2053 : List sxCu := []
set_option maxRecDepth 1000000 in
theorem cv2053 {gh : sxGh} (hg : sxGd sxKw gh) : sxCtV sxKw gh ct2053 := sxMeB_ok (cts := [ct2052, ct2050, ct2051, ct2047, ct2049, ct2048, ct1971, ct1973, ct1975, ct1977, ct1979, ct1981]) (cuts := cu2053) (sp := []) 160 (by decide +kernel) hg (by decide) (by decide) (List.forall_mem_cons.mpr ⟨cv2052 hg, (List.forall_mem_cons.mpr ⟨cv2050 hg, (List.forall_mem_cons.mpr ⟨cv2051 hg, (List.forall_mem_cons.mpr ⟨cv2047 hg, (List.forall_mem_cons.mpr ⟨cv2049 hg, (List.forall_mem_cons.mpr ⟨cv2048 hg, (List.forall_mem_cons.mpr ⟨cv1971 hg, (List.forall_mem_cons.mpr ⟨cv1973 hg, (List.forall_mem_cons.mpr ⟨cv1975 hg, (List.forall_mem_cons.mpr ⟨cv1977 hg, (List.forall_mem_cons.mpr ⟨cv1979 hg, (List.forall_mem_cons.mpr ⟨cv1981 hg, (fun _ h => absurd h List.not_mem_nil)⟩)⟩)⟩)⟩)⟩)⟩)⟩)⟩)⟩)⟩)⟩)⟩)
/-- LotBeliefs.Jar.deadIn -/
def ct2055 : sxCt := (20, 0, (2, [(1, .ofNat 0, .ofNat 1)], [], [(0, .inl 3), (1, .inr (false, (1, .ofNat 0)))], [], [], []), [], [
  (3, [(1, .ofNat 0, .ofNat 1), (2, .ofNat 0, .ofNat 2147483647)], [], [], [.inr (false, (2, .ofNat 0))], [], [])], [], 0, 0)
def cu2055 : List sxCu := [
  (4, (4, [(1, .ofNat 0, .ofNat 1), (2, .ofNat 0, .ofNat 2147483647), (3, .ofNat 0, .ofNat 17)], [], [(0, .inl 3), (1, .inr (false, (1, .ofNat 0))), (2, .inr (false, (2, .ofNat 0))), (3, .inr (false, (3, .ofNat 0)))], [], [], []), ((0, 3, .ofNat 17), (0, 0, .ofNat 0), (0, 0, .ofNat 0)), 0, 0)]
set_option maxRecDepth 1000000 in
theorem cv2055 {gh : sxGh} (hg : sxGd sxKw gh) : sxCtV sxKw gh ct2055 := sxMeB_ok (cts := []) (cuts := cu2055) (sp := []) 95 (by decide +kernel) hg (by decide) (by decide) (fun _ h => absurd h List.not_mem_nil)
/-- LotBeliefs.Jar.foesIn -/
def ct2104 : sxCt := (21, 1, (3, [(1, .ofNat 0, .ofNat 16), (2, .ofNat 0, .ofNat 16)], [], [(0, .inl 3), (1, .inr (false, (1, .ofNat 0))), (2, .inr (false, (2, .ofNat 0)))], [], [], []), [], [
  (4, [(1, .ofNat 0, .ofNat 16), (2, .ofNat 0, .ofNat 16), (3, .ofNat 0, .ofNat 2147483647)], [], [], [.inr (false, (3, .ofNat 0))], [], [])], [], 0, 0)
def cu2104 : List sxCu := [
  (5, (5, [(1, .ofNat 0, .ofNat 16), (2, .ofNat 0, .ofNat 16), (3, .ofNat 0, .ofNat 2147483647), (4, .ofNat 0, .ofNat 17)], [], [(0, .inl 3), (1, .inr (false, (1, .ofNat 0))), (2, .inr (false, (2, .ofNat 0))), (3, .inr (false, (3, .ofNat 0))), (4, .inr (false, (4, .ofNat 0)))], [], [], []), ((0, 4, .ofNat 17), (0, 0, .ofNat 0), (0, 0, .ofNat 0)), 0, 0)]
set_option maxRecDepth 1000000 in
theorem cv2104 {gh : sxGh} (hg : sxGd sxKw gh) : sxCtV sxKw gh ct2104 := sxMeB_ok (cts := []) (cuts := cu2104) (sp := []) 115 (by decide +kernel) hg (by decide) (by decide) (fun _ h => absurd h List.not_mem_nil)
/-- LotBeliefs.Jar.leftBy -/
def ct2111 : sxCt := (19, 0, (2, [(1, .ofNat 0, .ofNat 51)], [], [(0, .inl 3), (1, .inr (false, (1, .ofNat 0)))], [], [], []), [], [
  (3, [(1, .ofNat 0, .ofNat 51), (2, .negSucc 9223372036854775807, .ofNat 9223372036854775807)], [], [], [.inr (true, (2, .ofNat 0))], [], [])], [], 0, 0)
def cu2111 : List sxCu := [
  (8, (5, [(1, .ofNat 0, .ofNat 51), (2, .negSucc 9223372036854775807, .ofNat 9223372036854775807), (3, .ofNat 0, .ofNat 12), (4, .negSucc 9223372036854775807, .ofNat 9223372036854775807)], [], [(0, .inl 3), (1, .inr (false, (1, .ofNat 0))), (2, .inr (true, (2, .ofNat 0))), (4, .inr (false, (3, .ofNat 0)))], [], [(3, (0, .ofNat 1), .inr (true, (4, .ofNat 0)))], []), ((0, 3, .ofNat 12), (0, 0, .ofNat 0), (0, 0, .ofNat 0)), 0, 0)]
set_option maxRecDepth 1000000 in
theorem cv2111 {gh : sxGh} (hg : sxGd sxKw gh) : sxCtV sxKw gh ct2111 := sxMeB_ok (cts := []) (cuts := cu2111) (sp := []) 88 (by decide +kernel) hg (by decide) (by decide) (fun _ h => absurd h List.not_mem_nil)
/-- LotBeliefs.Jar.deadIn -/
def ct2112 : sxCt := (20, 0, (2, [(1, .ofNat 0, .ofNat 51)], [], [(0, .inl 3), (1, .inr (false, (1, .ofNat 0)))], [], [], []), [], [
  (3, [(1, .ofNat 0, .ofNat 51), (2, .ofNat 0, .ofNat 2147483647)], [], [], [.inr (false, (2, .ofNat 0))], [], [])], [], 0, 0)
def cu2112 : List sxCu := [
  (4, (4, [(1, .ofNat 0, .ofNat 51), (2, .ofNat 0, .ofNat 2147483647), (3, .ofNat 0, .ofNat 17)], [], [(0, .inl 3), (1, .inr (false, (1, .ofNat 0))), (2, .inr (false, (2, .ofNat 0))), (3, .inr (false, (3, .ofNat 0)))], [], [], []), ((0, 3, .ofNat 17), (0, 0, .ofNat 0), (0, 0, .ofNat 0)), 0, 0)]
set_option maxRecDepth 1000000 in
theorem cv2112 {gh : sxGh} (hg : sxGd sxKw gh) : sxCtV sxKw gh ct2112 := sxMeB_ok (cts := []) (cuts := cu2112) (sp := []) 95 (by decide +kernel) hg (by decide) (by decide) (fun _ h => absurd h List.not_mem_nil)
/-- LotBeliefs.Jar.settle -/
def ct2113 : sxCt := (18, 2, (1, [], [], [(0, .inl 3)], [], [], []), [(5, 0), (8, 0), (9, 0), (10, 0)], [
  (1, [], [], [], [], [], [])], [], 0, 0)
def cu2113 : List sxCu := [
  (104, (3, [(1, .ofNat 1, .ofNat 51), (2, .ofNat 0, .ofNat 17)], [], [(0, .inl 3), (1, .inr (false, (1, .ofNat 0))), (2, .inr (false, (0, .ofNat 0))), (3, .inr (false, (2, .ofNat 0)))], [], [(3, (0, .ofNat 11), .inl 8), (3, (0, .ofNat 12), .inl 9)], []), ((0, 1, .ofNat 52), (0, 2, .ofNat 17), (0, 0, .ofNat 0)), 0, 0), 
  (104, (3, [(1, .ofNat 0, .ofNat 51), (2, .ofNat 0, .ofNat 17)], [], [(0, .inl 3), (1, .inr (false, (1, .ofNat 0))), (2, .inr (false, (0, .ofNat 1))), (3, .inr (false, (2, .ofNat 0)))], [], [(3, (0, .ofNat 11), .inl 8), (3, (0, .ofNat 12), .inl 9)], []), ((0, 1, .ofNat 52), (0, 2, .ofNat 17), (0, 0, .ofNat 0)), 0, 0), 
  (2, (2, [(1, .ofNat 0, .ofNat 17)], [], [(0, .inl 3), (1, .inr (false, (1, .ofNat 0)))], [], [], []), ((0, 1, .ofNat 70), (0, 0, .ofNat 0), (0, 0, .ofNat 0)), 0, 0), 
  (31, (2, [(1, .ofNat 0, .ofNat 52)], [], [(0, .inl 3), (1, .inr (false, (1, .ofNat 0)))], [], [], []), ((0, 1, .ofNat 52), (0, 0, .ofNat 18), (0, 0, .ofNat 0)), 0, 0)]
set_option maxRecDepth 1000000 in
theorem cv2113 {gh : sxGh} (hg : sxGd sxKw gh) : sxCtV sxKw gh ct2113 := sxMeB_ok (cts := [ct2111, ct2055, ct2112, ct2104, ct24]) (cuts := cu2113) (sp := []) 231 (by decide +kernel) hg (by decide) (by decide) (List.forall_mem_cons.mpr ⟨cv2111 hg, (List.forall_mem_cons.mpr ⟨cv2055 hg, (List.forall_mem_cons.mpr ⟨cv2112 hg, (List.forall_mem_cons.mpr ⟨cv2104 hg, (List.forall_mem_cons.mpr ⟨cv24 hg, (fun _ h => absurd h List.not_mem_nil)⟩)⟩)⟩)⟩)⟩)
/-- LotBeliefs.JarReader.read -/
def ct2114 : sxCt := (31, 32, (1, [], [], [(0, .inl 1), (1, .inl 3)], [], [(1, (0, .ofNat 7), .inr (false, (0, .ofNat 0)))], []), [(1, 4), (1, 5), (1, 6), (1, 7), (1, 8), (1, 9), (1, 10), (3, 1), (3, 2), (3, 3), (3, 4), (3, 5), (3, 6), (3, 7), (4, 0), (5, 0), (6, 0), (7, 0), (8, 0), (9, 0), (10, 0)], [
  (1, [], [], [], [], [(1, (0, .ofNat 7), .inr (false, (0, .ofNat 0)))], [])], [], 0, 0)
def cu2114 : List sxCu := [
  (6, (2, [(1, .ofNat 0, .ofNat 63)], [], [(0, .inl 1), (1, .inl 3), (2, .inr (false, (1, .ofNat 0)))], [], [(1, (0, .ofNat 7), .inr (false, (0, .ofNat 0)))], []), ((0, 1, .ofNat 63), (0, 0, .ofNat 0), (0, 0, .ofNat 0)), 0, 0)]
set_option maxRecDepth 1000000 in
theorem cv2114 {gh : sxGh} (hg : sxGd sxKw gh) : sxCtV sxKw gh ct2114 := sxMeB_ok (cts := [ct2046, ct2113, ct2053, ct1596]) (cuts := cu2114) (sp := []) 353 (by decide +kernel) hg (by decide) (by decide) (List.forall_mem_cons.mpr ⟨cv2046 hg, (List.forall_mem_cons.mpr ⟨cv2113 hg, (List.forall_mem_cons.mpr ⟨cv2053 hg, (List.forall_mem_cons.mpr ⟨cv1596 hg, (fun _ h => absurd h List.not_mem_nil)⟩)⟩)⟩)⟩)
/-- LotBeliefs.Setting.begin -/
def ct2115 : sxCt := (49, 0, (1, [], [], [(0, .inl 27), (1, .inl 3)], [], [], []), [(27, 2), (27, 3), (28, 0)], [
  (3, [(1, .ofNat 0, .ofNat 4), (2, .ofNat 0, .ofNat 63)], [], [], [], [(27, (0, .ofNat 1), .inr (false, (1, .ofNat 0))), (27, (0, .ofNat 2), .inr (false, (2, .ofNat 0)))], [])], [], 0, 0)
def cu2115 : List sxCu := [
  (2, (2, [(1, .ofNat 0, .ofNat 12)], [], [(0, .inl 27), (1, .inl 3), (2, .inr (false, (1, .ofNat 0)))], [], [], []), ((0, 1, .ofNat 12), (0, 0, .ofNat 0), (0, 0, .ofNat 0)), 0, 0)]
set_option maxRecDepth 1000000 in
theorem cv2115 {gh : sxGh} (hg : sxGd sxKw gh) : sxCtV sxKw gh ct2115 := sxMeB_ok (cts := []) (cuts := cu2115) (sp := []) 83 (by decide +kernel) hg (by decide) (by decide) (fun _ h => absurd h List.not_mem_nil)
/-- LotBeliefs.jar -/
def ct2116 : sxCt := (114, 33, (3, [(1, .negSucc 2147483647, .ofNat 2147483647), (2, .ofNat 0, .ofNat 600)], [], [(0, .inl 0), (1, .inr (false, (1, .ofNat 0)))], [], [(1, (0, .ofNat 1), .inr (false, (2, .ofNat 0)))], []), [(0, 2), (0, 3), (0, 4), (0, 7), (0, 10), (1, 2), (1, 3), (1, 4), (1, 5), (1, 6), (1, 7), (1, 8), (1, 9), (1, 10), (3, 1), (3, 2), (3, 3), (3, 4), (3, 5), (3, 6), (3, 7), (4, 0), (5, 0), (6, 0), (7, 0), (8, 0), (9, 0), (10, 0), (11, 1), (11, 2), (11, 3), (11, 4), (11, 5), (11, 6), (11, 7), (12, 0), (13, 0), (14, 0), (15, 0), (16, 0), (17, 0), (18, 0), (19, 1), (19, 3), (23, 1), (23, 3), (27, 2), (27, 3), (28, 0), (30, 0), (58, 2), (62, 2), (66, 2), (70, 2), (74, 2)], [
  (6, [(1, .ofNat 0, .ofNat 0), (2, .ofNat 0, .ofNat 600), (3, .negSucc 8, .ofNat 12), (4, .negSucc 0, .ofNat 600), (5, .ofNat 0, .ofNat 4)], [(5, 3, .ofNat 10), (1, 2, .ofNat 0)], [], [.inr (false, (3, .ofNat 0))], [(0, (0, .ofNat 1), .inr (false, (4, .ofNat 0))), (1, (0, .ofNat 1), .inr (false, (0, .ofNat 0))), (1, (0, .ofNat 2), .inr (false, (0, .ofNat 0))), (1, (0, .ofNat 7), .inr (false, (0, .ofNat 0))), (1, (0, .ofNat 8), .inr (false, (5, .ofNat 0))), (1, (0, .ofNat 9), .inr (false, (4, .ofNat 0)))], []), 
  (6, [(1, .ofNat 1, .ofNat 600), (2, .ofNat 1, .ofNat 600), (3, .negSucc 8, .ofNat 12), (4, .negSucc 0, .ofNat 600), (5, .ofNat 0, .ofNat 4)], [(5, 3, .ofNat 10), (1, 2, .ofNat 0)], [], [.inr (false, (3, .ofNat 0))], [(0, (0, .ofNat 1), .inr (false, (4, .ofNat 0))), (1, (0, .ofNat 1), .inr (false, (0, .ofNat 0))), (1, (0, .ofNat 2), .inr (false, (1, .ofNat 0))), (1, (0, .ofNat 7), .inr (false, (0, .ofNat 0))), (1, (0, .ofNat 8), .inr (false, (5, .ofNat 0))), (1, (0, .ofNat 9), .inr (false, (4, .ofNat 0)))], [])], [
  (1, (4, [(1, .ofNat 1, .ofNat 2147483647), (2, .ofNat 0, .ofNat 600), (3, .negSucc 2147483647, .ofNat 2147483647)], [(2, 1, .negSucc 0)], [], [], [(1, (0, .ofNat 1), .inr (false, (2, .ofNat 0))), (30, (0, .ofNat 1), .inr (false, (3, .ofNat 0)))], [])), 
  (1, (4, [(1, .negSucc 2147483647, .negSucc 0), (2, .ofNat 0, .ofNat 600), (3, .negSucc 2147483647, .ofNat 2147483647)], [(1, 2, .ofNat 0)], [], [], [(1, (0, .ofNat 1), .inr (false, (2, .ofNat 0))), (30, (0, .ofNat 1), .inr (false, (3, .ofNat 0)))], []))], 1, 6)
def cu2116 : List sxCu := []
set_option maxRecDepth 1000000 in
theorem cv2116 {gh : sxGh} (hg : sxGd sxKw gh) : sxCtV sxKw gh ct2116 := sxMeB_ok (cts := [ct2114, ct2044, ct2115, ct2045, ct1596, ct1664]) (cuts := cu2116) (sp := []) 732 (by decide +kernel) hg (by decide) (by decide) (List.forall_mem_cons.mpr ⟨cv2114 hg, (List.forall_mem_cons.mpr ⟨cv2044 hg, (List.forall_mem_cons.mpr ⟨cv2115 hg, (List.forall_mem_cons.mpr ⟨cv2045 hg, (List.forall_mem_cons.mpr ⟨cv1596 hg, (List.forall_mem_cons.mpr ⟨cv1664 hg, (fun _ h => absurd h List.not_mem_nil)⟩)⟩)⟩)⟩)⟩)⟩)
/-- LotBeliefsLaw.jar -/
def ct2117 : sxCt := (329, 34, (3, [(1, .negSucc 2147483647, .ofNat 2147483647), (2, .ofNat 0, .ofNat 600)], [], [(0, .inl 0), (1, .inr (false, (1, .ofNat 0))), (2, .inl 578)], [], [(1, (0, .ofNat 1), .inr (false, (2, .ofNat 0)))], []), [(0, 2), (0, 3), (0, 4), (0, 7), (0, 10), (1, 2), (1, 3), (1, 4), (1, 5), (1, 6), (1, 7), (1, 8), (1, 9), (1, 10), (3, 1), (3, 2), (3, 3), (3, 4), (3, 5), (3, 6), (3, 7), (4, 0), (5, 0), (6, 0), (7, 0), (8, 0), (9, 0), (10, 0), (11, 1), (11, 2), (11, 3), (11, 4), (11, 5), (11, 6), (11, 7), (12, 0), (13, 0), (14, 0), (15, 0), (16, 0), (17, 0), (18, 0), (19, 1), (19, 3), (23, 1), (23, 3), (27, 2), (27, 3), (28, 0), (30, 0), (58, 2), (62, 2), (66, 2), (70, 2), (74, 2), (578, 0)], [
  (4, [(1, .negSucc 2147483647, .negSucc 0), (2, .ofNat 0, .ofNat 600), (3, .negSucc 2147483647, .ofNat 2147483647)], [(1, 2, .ofNat 0)], [], [.inr (false, (0, .ofNat 1))], [(1, (0, .ofNat 1), .inr (false, (2, .ofNat 0))), (30, (0, .ofNat 1), .inr (false, (3, .ofNat 0)))], []), 
  (4, [(1, .ofNat 1, .ofNat 2147483647), (2, .ofNat 0, .ofNat 600), (3, .negSucc 2147483647, .ofNat 2147483647)], [(2, 1, .negSucc 0)], [], [.inr (false, (0, .ofNat 1))], [(1, (0, .ofNat 1), .inr (false, (2, .ofNat 0))), (30, (0, .ofNat 1), .inr (false, (3, .ofNat 0)))], []), 
  (6, [(1, .ofNat 1, .ofNat 600), (2, .ofNat 1, .ofNat 600), (3, .negSucc 0, .ofNat 600), (4, .ofNat 0, .ofNat 4), (5, .negSucc 8, .ofNat 12)], [(4, 5, .ofNat 10), (1, 2, .ofNat 0)], [], [.inr (false, (0, .ofNat 0))], [(0, (0, .ofNat 1), .inr (false, (3, .ofNat 0))), (1, (0, .ofNat 1), .inr (false, (0, .ofNat 0))), (1, (0, .ofNat 2), .inr (false, (1, .ofNat 0))), (1, (0, .ofNat 7), .inr (false, (0, .ofNat 0))), (1, (0, .ofNat 8), .inr (false, (4, .ofNat 0))), (1, (0, .ofNat 9), .inr (false, (3, .ofNat 0))), (578, (0, .ofNat 0), .inr (true, (5, .ofNat 0)))], []), 
  (6, [(1, .ofNat 0, .ofNat 0), (2, .ofNat 0, .ofNat 600), (3, .negSucc 0, .ofNat 600), (4, .ofNat 0, .ofNat 4), (5, .negSucc 8, .ofNat 12)], [(4, 5, .ofNat 10), (1, 2, .ofNat 0)], [], [.inr (false, (0, .ofNat 0))], [(0, (0, .ofNat 1), .inr (false, (3, .ofNat 0))), (1, (0, .ofNat 1), .inr (false, (0, .ofNat 0))), (1, (0, .ofNat 2), .inr (false, (0, .ofNat 0))), (1, (0, .ofNat 7), .inr (false, (0, .ofNat 0))), (1, (0, .ofNat 8), .inr (false, (4, .ofNat 0))), (1, (0, .ofNat 9), .inr (false, (3, .ofNat 0))), (578, (0, .ofNat 0), .inr (true, (5, .ofNat 0)))], [])], [], 1, 6)
def cu2117 : List sxCu := []
set_option maxRecDepth 1000000 in
theorem cv2117 {gh : sxGh} (hg : sxGd sxKw gh) : sxCtV sxKw gh ct2117 := sxMeB_ok (cts := [ct2116]) (cuts := cu2117) (sp := []) 80 (by decide +kernel) hg (by decide) (by decide) (List.forall_mem_cons.mpr ⟨cv2116 hg, (fun _ h => absurd h List.not_mem_nil)⟩)
/-- LotBeliefsModel.tellsNothing -/
def ct2118 : sxCt := (195, 0, (1, [], [], [(0, .inl 78)], [], [], []), [(81, 0)], [
  (1, [], [], [], [], [(81, (0, .ofNat 0), .inr (false, (0, .ofNat 4))), (81, (0, .ofNat 1), .inr (false, (0, .ofNat 0))), (81, (0, .ofNat 2), .inr (false, (0, .ofNat 0))), (81, (0, .ofNat 3), .inr (false, (0, .ofNat 0))), (81, (0, .ofNat 4), .inr (false, (0, .ofNat 0))), (81, (0, .ofNat 5), .inr (false, (0, .ofNat 0)))], [])], [], 0, 0)
def cu2118 : List sxCu := []
set_option maxRecDepth 1000000 in
theorem cv2118 {gh : sxGh} (hg : sxGd sxKw gh) : sxCtV sxKw gh ct2118 := sxMeB_ok (cts := []) (cuts := cu2118) (sp := []) 131 (by decide +kernel) hg (by decide) (by decide) (fun _ h => absurd h List.not_mem_nil)
/-- LotBeliefsModel.isWord -/
def ct2119 : sxCt := (207, 3, (4, [(1, .ofNat 0, .ofNat 4), (2, .ofNat 0, .ofNat 600), (3, .ofNat 0, .ofNat 600)], [], [(0, .inl 78), (1, .inr (false, (0, .ofNat 1))), (2, .inr (false, (0, .ofNat 20))), (3, .inr (false, (0, .ofNat 15))), (4, .inr (false, (0, .ofNat 13))), (5, .inr (false, (0, .ofNat 19))), (6, .inr (false, (0, .ofNat 0)))], [], [(78, (0, .ofNat 5), .inr (false, (1, .ofNat 0))), (78, (0, .ofNat 2), .inr (false, (2, .ofNat 0))), (78, (0, .ofNat 4), .inr (false, (3, .ofNat 0)))], []), [(78, 5), (579, 5)], [
  (5, [(1, .ofNat 0, .ofNat 0), (2, .ofNat 0, .ofNat 600), (3, .ofNat 0, .ofNat 600), (4, .ofNat 0, .ofNat 600)], [(3, 4, .ofNat 0)], [], [.inr (false, (0, .ofNat 0))], [(78, (0, .ofNat 2), .inr (false, (2, .ofNat 0))), (78, (0, .ofNat 4), .inr (false, (4, .ofNat 0))), (78, (0, .ofNat 5), .inr (false, (1, .ofNat 0)))], []), 
  (6, [(1, .ofNat 0, .ofNat 0), (2, .ofNat 1, .ofNat 600), (3, .ofNat 0, .ofNat 599), (4, .ofNat 0, .ofNat 599), (5, .ofNat 97, .ofNat 122)], [(3, 4, .ofNat 0), (4, 2, .negSucc 0)], [], [.inr (false, (0, .ofNat 1))], [(78, (0, .ofNat 2), .inr (false, (2, .ofNat 0))), (78, (0, .ofNat 4), .inr (false, (4, .ofNat 0))), (78, (0, .ofNat 5), .inr (false, (1, .ofNat 0))), (79, (4, .ofNat 0), .inr (false, (5, .ofNat 0)))], []), 
  (4, [(1, .ofNat 1, .ofNat 4), (2, .ofNat 0, .ofNat 600), (3, .ofNat 0, .ofNat 600)], [], [], [.inr (false, (0, .ofNat 0))], [(78, (0, .ofNat 2), .inr (false, (2, .ofNat 0))), (78, (0, .ofNat 4), .inr (false, (3, .ofNat 0))), (78, (0, .ofNat 5), .inr (false, (1, .ofNat 0)))], [])], [], 0, 0)
def cu2119 : List sxCu := []
set_option maxRecDepth 1000000 in
theorem cv2119 {gh : sxGh} (hg : sxGd sxKw gh) : sxCtV sxKw gh ct2119 := sxMeB_ok (cts := [ct1934]) (cuts := cu2119) (sp := []) 206 (by decide +kernel) hg (by decide) (by decide) (List.forall_mem_cons.mpr ⟨cv1934 hg, (fun _ h => absurd h List.not_mem_nil)⟩)
/-- LotBeliefsModel.isWord -/
def ct2120 : sxCt := (207, 3, (4, [(1, .ofNat 0, .ofNat 4), (2, .ofNat 0, .ofNat 600), (3, .ofNat 0, .ofNat 600)], [], [(0, .inl 78), (1, .inr (false, (0, .ofNat 19))), (2, .inr (false, (0, .ofNat 12))), (3, .inr (false, (0, .ofNat 9))), (4, .inr (false, (0, .ofNat 16))), (5, .inr (false, (0, .ofNat 0))), (6, .inr (false, (0, .ofNat 0)))], [], [(78, (0, .ofNat 5), .inr (false, (1, .ofNat 0))), (78, (0, .ofNat 2), .inr (false, (2, .ofNat 0))), (78, (0, .ofNat 4), .inr (false, (3, .ofNat 0)))], []), [(78, 5), (579, 5)], [
  (5, [(1, .ofNat 0, .ofNat 0), (2, .ofNat 0, .ofNat 600), (3, .ofNat 0, .ofNat 600), (4, .ofNat 0, .ofNat 600)], [(3, 4, .ofNat 0)], [], [.inr (false, (0, .ofNat 0))], [(78, (0, .ofNat 2), .inr (false, (2, .ofNat 0))), (78, (0, .ofNat 4), .inr (false, (4, .ofNat 0))), (78, (0, .ofNat 5), .inr (false, (1, .ofNat 0)))], []), 
  (6, [(1, .ofNat 0, .ofNat 0), (2, .ofNat 1, .ofNat 600), (3, .ofNat 0, .ofNat 599), (4, .ofNat 0, .ofNat 599), (5, .ofNat 97, .ofNat 122)], [(3, 4, .ofNat 0), (4, 2, .negSucc 0)], [], [.inr (false, (0, .ofNat 1))], [(78, (0, .ofNat 2), .inr (false, (2, .ofNat 0))), (78, (0, .ofNat 4), .inr (false, (4, .ofNat 0))), (78, (0, .ofNat 5), .inr (false, (1, .ofNat 0))), (79, (4, .ofNat 0), .inr (false, (5, .ofNat 0)))], []), 
  (4, [(1, .ofNat 1, .ofNat 4), (2, .ofNat 0, .ofNat 600), (3, .ofNat 0, .ofNat 600)], [], [], [.inr (false, (0, .ofNat 0))], [(78, (0, .ofNat 2), .inr (false, (2, .ofNat 0))), (78, (0, .ofNat 4), .inr (false, (3, .ofNat 0))), (78, (0, .ofNat 5), .inr (false, (1, .ofNat 0)))], [])], [], 0, 0)
def cu2120 : List sxCu := []
set_option maxRecDepth 1000000 in
theorem cv2120 {gh : sxGh} (hg : sxGd sxKw gh) : sxCtV sxKw gh ct2120 := sxMeB_ok (cts := [ct1934]) (cuts := cu2120) (sp := []) 197 (by decide +kernel) hg (by decide) (by decide) (List.forall_mem_cons.mpr ⟨cv1934 hg, (fun _ h => absurd h List.not_mem_nil)⟩)
/-- LotBeliefsModel.isWord -/
def ct2121 : sxCt := (207, 3, (4, [(1, .ofNat 0, .ofNat 4), (2, .ofNat 0, .ofNat 600), (3, .ofNat 0, .ofNat 600)], [], [(0, .inl 78), (1, .inr (false, (0, .ofNat 19))), (2, .inr (false, (0, .ofNat 5))), (3, .inr (false, (0, .ofNat 5))), (4, .inr (false, (0, .ofNat 0))), (5, .inr (false, (0, .ofNat 0))), (6, .inr (false, (0, .ofNat 0)))], [], [(78, (0, .ofNat 5), .inr (false, (1, .ofNat 0))), (78, (0, .ofNat 2), .inr (false, (2, .ofNat 0))), (78, (0, .ofNat 4), .inr (false, (3, .ofNat 0)))], []), [(78, 5), (579, 5)], [
  (5, [(1, .ofNat 0, .ofNat 0), (2, .ofNat 0, .ofNat 600), (3, .ofNat 0, .ofNat 600), (4, .ofNat 0, .ofNat 600)], [(3, 4, .ofNat 0)], [], [.inr (false, (0, .ofNat 0))], [(78, (0, .ofNat 2), .inr (false, (2, .ofNat 0))), (78, (0, .ofNat 4), .inr (false, (4, .ofNat 0))), (78, (0, .ofNat 5), .inr (false, (1, .ofNat 0)))], []), 
  (6, [(1, .ofNat 0, .ofNat 0), (2, .ofNat 1, .ofNat 600), (3, .ofNat 0, .ofNat 599), (4, .ofNat 0, .ofNat 599), (5, .ofNat 97, .ofNat 122)], [(3, 4, .ofNat 0), (4, 2, .negSucc 0)], [], [.inr (false, (0, .ofNat 1))], [(78, (0, .ofNat 2), .inr (false, (2, .ofNat 0))), (78, (0, .ofNat 4), .inr (false, (4, .ofNat 0))), (78, (0, .ofNat 5), .inr (false, (1, .ofNat 0))), (79, (4, .ofNat 0), .inr (false, (5, .ofNat 0)))], []), 
  (4, [(1, .ofNat 1, .ofNat 4), (2, .ofNat 0, .ofNat 600), (3, .ofNat 0, .ofNat 600)], [], [], [.inr (false, (0, .ofNat 0))], [(78, (0, .ofNat 2), .inr (false, (2, .ofNat 0))), (78, (0, .ofNat 4), .inr (false, (3, .ofNat 0))), (78, (0, .ofNat 5), .inr (false, (1, .ofNat 0)))], [])], [], 0, 0)
def cu2121 : List sxCu := []
set_option maxRecDepth 1000000 in
theorem cv2121 {gh : sxGh} (hg : sxGd sxKw gh) : sxCtV sxKw gh ct2121 := sxMeB_ok (cts := [ct1934]) (cuts := cu2121) (sp := []) 188 (by decide +kernel) hg (by decide) (by decide) (List.forall_mem_cons.mpr ⟨cv1934 hg, (fun _ h => absurd h List.not_mem_nil)⟩)
/-- LotBeliefsModel.isWord -/
def ct2122 : sxCt := (207, 3, (4, [(1, .ofNat 0, .ofNat 4), (2, .ofNat 0, .ofNat 600), (3, .ofNat 0, .ofNat 600)], [], [(0, .inl 78), (1, .inr (false, (0, .ofNat 19))), (2, .inr (false, (0, .ofNat 1))), (3, .inr (false, (0, .ofNat 12))), (4, .inr (false, (0, .ofNat 20))), (5, .inr (false, (0, .ofNat 0))), (6, .inr (false, (0, .ofNat 0)))], [], [(78, (0, .ofNat 5), .inr (false, (1, .ofNat 0))), (78, (0, .ofNat 2), .inr (false, (2, .ofNat 0))), (78, (0, .ofNat 4), .inr (false, (3, .ofNat 0)))], []), [(78, 5), (579, 5)], [
  (5, [(1, .ofNat 0, .ofNat 0), (2, .ofNat 0, .ofNat 600), (3, .ofNat 0, .ofNat 600), (4, .ofNat 0, .ofNat 600)], [(3, 4, .ofNat 0)], [], [.inr (false, (0, .ofNat 0))], [(78, (0, .ofNat 2), .inr (false, (2, .ofNat 0))), (78, (0, .ofNat 4), .inr (false, (4, .ofNat 0))), (78, (0, .ofNat 5), .inr (false, (1, .ofNat 0)))], []), 
  (6, [(1, .ofNat 0, .ofNat 0), (2, .ofNat 1, .ofNat 600), (3, .ofNat 0, .ofNat 599), (4, .ofNat 0, .ofNat 599), (5, .ofNat 97, .ofNat 122)], [(3, 4, .ofNat 0), (4, 2, .negSucc 0)], [], [.inr (false, (0, .ofNat 1))], [(78, (0, .ofNat 2), .inr (false, (2, .ofNat 0))), (78, (0, .ofNat 4), .inr (false, (4, .ofNat 0))), (78, (0, .ofNat 5), .inr (false, (1, .ofNat 0))), (79, (4, .ofNat 0), .inr (false, (5, .ofNat 0)))], []), 
  (4, [(1, .ofNat 1, .ofNat 4), (2, .ofNat 0, .ofNat 600), (3, .ofNat 0, .ofNat 600)], [], [], [.inr (false, (0, .ofNat 0))], [(78, (0, .ofNat 2), .inr (false, (2, .ofNat 0))), (78, (0, .ofNat 4), .inr (false, (3, .ofNat 0))), (78, (0, .ofNat 5), .inr (false, (1, .ofNat 0)))], [])], [], 0, 0)
def cu2122 : List sxCu := []
set_option maxRecDepth 1000000 in
theorem cv2122 {gh : sxGh} (hg : sxGd sxKw gh) : sxCtV sxKw gh ct2122 := sxMeB_ok (cts := [ct1934]) (cuts := cu2122) (sp := []) 197 (by decide +kernel) hg (by decide) (by decide) (List.forall_mem_cons.mpr ⟨cv1934 hg, (fun _ h => absurd h List.not_mem_nil)⟩)
/-- LotBeliefsModel.isWord -/
def ct2123 : sxCt := (207, 3, (4, [(1, .ofNat 0, .ofNat 4), (2, .ofNat 0, .ofNat 600), (3, .ofNat 0, .ofNat 600)], [], [(0, .inl 78), (1, .inr (false, (0, .ofNat 23))), (2, .inr (false, (0, .ofNat 15))), (3, .inr (false, (0, .ofNat 18))), (4, .inr (false, (0, .ofNat 12))), (5, .inr (false, (0, .ofNat 4))), (6, .inr (false, (0, .ofNat 0)))], [], [(78, (0, .ofNat 5), .inr (false, (1, .ofNat 0))), (78, (0, .ofNat 2), .inr (false, (2, .ofNat 0))), (78, (0, .ofNat 4), .inr (false, (3, .ofNat 0)))], []), [(78, 5), (579, 5)], [
  (5, [(1, .ofNat 0, .ofNat 0), (2, .ofNat 0, .ofNat 600), (3, .ofNat 0, .ofNat 600), (4, .ofNat 0, .ofNat 600)], [(3, 4, .ofNat 0)], [], [.inr (false, (0, .ofNat 0))], [(78, (0, .ofNat 2), .inr (false, (2, .ofNat 0))), (78, (0, .ofNat 4), .inr (false, (4, .ofNat 0))), (78, (0, .ofNat 5), .inr (false, (1, .ofNat 0)))], []), 
  (6, [(1, .ofNat 0, .ofNat 0), (2, .ofNat 1, .ofNat 600), (3, .ofNat 0, .ofNat 599), (4, .ofNat 0, .ofNat 599), (5, .ofNat 97, .ofNat 122)], [(3, 4, .ofNat 0), (4, 2, .negSucc 0)], [], [.inr (false, (0, .ofNat 1))], [(78, (0, .ofNat 2), .inr (false, (2, .ofNat 0))), (78, (0, .ofNat 4), .inr (false, (4, .ofNat 0))), (78, (0, .ofNat 5), .inr (false, (1, .ofNat 0))), (79, (4, .ofNat 0), .inr (false, (5, .ofNat 0)))], []), 
  (4, [(1, .ofNat 1, .ofNat 4), (2, .ofNat 0, .ofNat 600), (3, .ofNat 0, .ofNat 600)], [], [], [.inr (false, (0, .ofNat 0))], [(78, (0, .ofNat 2), .inr (false, (2, .ofNat 0))), (78, (0, .ofNat 4), .inr (false, (3, .ofNat 0))), (78, (0, .ofNat 5), .inr (false, (1, .ofNat 0)))], [])], [], 0, 0)
def cu2123 : List sxCu := []
set_option maxRecDepth 1000000 in
theorem cv2123 {gh : sxGh} (hg : sxGd sxKw gh) : sxCtV sxKw gh ct2123 := sxMeB_ok (cts := [ct1934]) (cuts := cu2123) (sp := []) 206 (by decide +kernel) hg (by decide) (by decide) (List.forall_mem_cons.mpr ⟨cv1934 hg, (fun _ h => absurd h List.not_mem_nil)⟩)
/-- LotBeliefsModel.isWord -/
def ct2124 : sxCt := (207, 3, (4, [(1, .ofNat 0, .ofNat 4), (2, .ofNat 0, .ofNat 600), (3, .ofNat 0, .ofNat 600)], [], [(0, .inl 78), (1, .inr (false, (0, .ofNat 12))), (2, .inr (false, (0, .ofNat 1))), (3, .inr (false, (0, .ofNat 23))), (4, .inr (false, (0, .ofNat 0))), (5, .inr (false, (0, .ofNat 0))), (6, .inr (false, (0, .ofNat 0)))], [], [(78, (0, .ofNat 5), .inr (false, (1, .ofNat 0))), (78, (0, .ofNat 2), .inr (false, (2, .ofNat 0))), (78, (0, .ofNat 4), .inr (false, (3, .ofNat 0)))], []), [(78, 5), (579, 5)], [
  (5, [(1, .ofNat 0, .ofNat 0), (2, .ofNat 0, .ofNat 600), (3, .ofNat 0, .ofNat 600), (4, .ofNat 0, .ofNat 600)], [(3, 4, .ofNat 0)], [], [.inr (false, (0, .ofNat 0))], [(78, (0, .ofNat 2), .inr (false, (2, .ofNat 0))), (78, (0, .ofNat 4), .inr (false, (4, .ofNat 0))), (78, (0, .ofNat 5), .inr (false, (1, .ofNat 0)))], []), 
  (6, [(1, .ofNat 0, .ofNat 0), (2, .ofNat 1, .ofNat 600), (3, .ofNat 0, .ofNat 599), (4, .ofNat 0, .ofNat 599), (5, .ofNat 97, .ofNat 122)], [(3, 4, .ofNat 0), (4, 2, .negSucc 0)], [], [.inr (false, (0, .ofNat 1))], [(78, (0, .ofNat 2), .inr (false, (2, .ofNat 0))), (78, (0, .ofNat 4), .inr (false, (4, .ofNat 0))), (78, (0, .ofNat 5), .inr (false, (1, .ofNat 0))), (79, (4, .ofNat 0), .inr (false, (5, .ofNat 0)))], []), 
  (4, [(1, .ofNat 1, .ofNat 4), (2, .ofNat 0, .ofNat 600), (3, .ofNat 0, .ofNat 600)], [], [], [.inr (false, (0, .ofNat 0))], [(78, (0, .ofNat 2), .inr (false, (2, .ofNat 0))), (78, (0, .ofNat 4), .inr (false, (3, .ofNat 0))), (78, (0, .ofNat 5), .inr (false, (1, .ofNat 0)))], [])], [], 0, 0)
def cu2124 : List sxCu := []
set_option maxRecDepth 1000000 in
theorem cv2124 {gh : sxGh} (hg : sxGd sxKw gh) : sxCtV sxKw gh ct2124 := sxMeB_ok (cts := [ct1934]) (cuts := cu2124) (sp := []) 188 (by decide +kernel) hg (by decide) (by decide) (List.forall_mem_cons.mpr ⟨cv1934 hg, (fun _ h => absurd h List.not_mem_nil)⟩)
/-- LotBeliefsModel.kindHere -/
def ct2125 : sxCt := (219, 4, (4, [(1, .ofNat 0, .ofNat 4), (2, .ofNat 0, .ofNat 600), (3, .ofNat 0, .ofNat 600)], [], [(0, .inl 78)], [], [(78, (0, .ofNat 5), .inr (false, (1, .ofNat 0))), (78, (0, .ofNat 2), .inr (false, (2, .ofNat 0))), (78, (0, .ofNat 4), .inr (false, (3, .ofNat 0)))], []), [(78, 5), (579, 5)], [
  (4, [(1, .ofNat 1, .ofNat 4), (2, .ofNat 0, .ofNat 600), (3, .ofNat 0, .ofNat 600)], [], [], [.inr (false, (0, .negSucc 0))], [(78, (0, .ofNat 2), .inr (false, (2, .ofNat 0))), (78, (0, .ofNat 4), .inr (false, (3, .ofNat 0))), (78, (0, .ofNat 5), .inr (false, (1, .ofNat 0)))], []), 
  (6, [(1, .ofNat 0, .ofNat 0), (2, .ofNat 1, .ofNat 600), (3, .ofNat 0, .ofNat 599), (4, .ofNat 0, .ofNat 599), (5, .ofNat 97, .ofNat 122)], [(3, 4, .ofNat 0), (4, 2, .negSucc 0)], [], [.inr (false, (0, .ofNat 0))], [(78, (0, .ofNat 2), .inr (false, (2, .ofNat 0))), (78, (0, .ofNat 4), .inr (false, (4, .ofNat 0))), (78, (0, .ofNat 5), .inr (false, (1, .ofNat 0))), (79, (4, .ofNat 0), .inr (false, (5, .ofNat 0)))], []), 
  (6, [(1, .ofNat 0, .ofNat 0), (2, .ofNat 1, .ofNat 600), (3, .ofNat 0, .ofNat 599), (4, .ofNat 0, .ofNat 599), (5, .ofNat 97, .ofNat 122)], [(3, 4, .ofNat 0), (4, 2, .negSucc 0)], [], [.inr (false, (0, .ofNat 1))], [(78, (0, .ofNat 2), .inr (false, (2, .ofNat 0))), (78, (0, .ofNat 4), .inr (false, (4, .ofNat 0))), (78, (0, .ofNat 5), .inr (false, (0, .ofNat 0))), (79, (4, .ofNat 0), .inr (false, (5, .ofNat 0)))], []), 
  (6, [(1, .ofNat 0, .ofNat 0), (2, .ofNat 1, .ofNat 600), (3, .ofNat 0, .ofNat 599), (4, .ofNat 0, .ofNat 599), (5, .ofNat 97, .ofNat 122)], [(3, 4, .ofNat 0), (4, 2, .negSucc 0)], [], [.inr (false, (0, .ofNat 2))], [(78, (0, .ofNat 2), .inr (false, (2, .ofNat 0))), (78, (0, .ofNat 4), .inr (false, (4, .ofNat 0))), (78, (0, .ofNat 5), .inr (false, (0, .ofNat 0))), (79, (4, .ofNat 0), .inr (false, (5, .ofNat 0)))], []), 
  (6, [(1, .ofNat 0, .ofNat 0), (2, .ofNat 1, .ofNat 600), (3, .ofNat 0, .ofNat 599), (4, .ofNat 0, .ofNat 599), (5, .ofNat 97, .ofNat 122)], [(3, 4, .ofNat 0), (4, 2, .negSucc 0)], [], [.inr (false, (0, .ofNat 3))], [(78, (0, .ofNat 2), .inr (false, (2, .ofNat 0))), (78, (0, .ofNat 4), .inr (false, (4, .ofNat 0))), (78, (0, .ofNat 5), .inr (false, (0, .ofNat 0))), (79, (4, .ofNat 0), .inr (false, (5, .ofNat 0)))], []), 
  (6, [(1, .ofNat 0, .ofNat 0), (2, .ofNat 1, .ofNat 600), (3, .ofNat 0, .ofNat 599), (4, .ofNat 0, .ofNat 599), (5, .ofNat 97, .ofNat 122)], [(3, 4, .ofNat 0), (4, 2, .negSucc 0)], [], [.inr (false, (0, .ofNat 4))], [(78, (0, .ofNat 2), .inr (false, (2, .ofNat 0))), (78, (0, .ofNat 4), .inr (false, (4, .ofNat 0))), (78, (0, .ofNat 5), .inr (false, (0, .ofNat 0))), (79, (4, .ofNat 0), .inr (false, (5, .ofNat 0)))], []), 
  (6, [(1, .ofNat 0, .ofNat 0), (2, .ofNat 1, .ofNat 600), (3, .ofNat 0, .ofNat 599), (4, .ofNat 0, .ofNat 599), (5, .ofNat 97, .ofNat 122)], [(3, 4, .ofNat 0), (4, 2, .negSucc 0)], [], [.inr (false, (0, .ofNat 5))], [(78, (0, .ofNat 2), .inr (false, (2, .ofNat 0))), (78, (0, .ofNat 4), .inr (false, (4, .ofNat 0))), (78, (0, .ofNat 5), .inr (false, (0, .ofNat 0))), (79, (4, .ofNat 0), .inr (false, (5, .ofNat 0)))], []), 
  (5, [(1, .ofNat 0, .ofNat 0), (2, .ofNat 0, .ofNat 600), (3, .ofNat 0, .ofNat 600), (4, .ofNat 0, .ofNat 600)], [(3, 4, .ofNat 0)], [], [.inr (false, (0, .negSucc 0))], [(78, (0, .ofNat 2), .inr (false, (2, .ofNat 0))), (78, (0, .ofNat 4), .inr (false, (4, .ofNat 0))), (78, (0, .ofNat 5), .inr (false, (0, .ofNat 0)))], [])], [], 0, 0)
def cu2125 : List sxCu := []
set_option maxRecDepth 1000000 in
theorem cv2125 {gh : sxGh} (hg : sxGd sxKw gh) : sxCtV sxKw gh ct2125 := sxMeB_ok (cts := [ct2119, ct2120, ct2121, ct2122, ct2123, ct2124]) (cuts := cu2125) (sp := []) 194 (by decide +kernel) hg (by decide) (by decide) (List.forall_mem_cons.mpr ⟨cv2119 hg, (List.forall_mem_cons.mpr ⟨cv2120 hg, (List.forall_mem_cons.mpr ⟨cv2121 hg, (List.forall_mem_cons.mpr ⟨cv2122 hg, (List.forall_mem_cons.mpr ⟨cv2123 hg, (List.forall_mem_cons.mpr ⟨cv2124 hg, (fun _ h => absurd h List.not_mem_nil)⟩)⟩)⟩)⟩)⟩)⟩)
/-- LotBeliefsModel.number -/
def ct2126 : sxCt := (204, 2, (6, [(1, .ofNat 0, .ofNat 1), (2, .ofNat 0, .ofNat 4), (3, .ofNat 0, .ofNat 4), (4, .ofNat 0, .ofNat 600), (5, .ofNat 0, .ofNat 600)], [], [(0, .inl 78), (1, .inr (false, (1, .ofNat 0))), (2, .inr (false, (2, .ofNat 0)))], [], [(78, (0, .ofNat 5), .inr (false, (3, .ofNat 0))), (78, (0, .ofNat 2), .inr (false, (4, .ofNat 0))), (78, (0, .ofNat 4), .inr (false, (5, .ofNat 0)))], []), [(78, 5), (78, 6), (78, 7), (579, 5)], [
  (8, [(1, .ofNat 0, .ofNat 1), (2, .ofNat 0, .ofNat 4), (3, .ofNat 0, .ofNat 4), (4, .ofNat 0, .ofNat 600), (5, .ofNat 0, .ofNat 600), (6, .ofNat 0, .ofNat 600), (7, .ofNat 1, .ofNat 4)], [(3, 7, .ofNat 0), (5, 6, .ofNat 0), (7, 3, .ofNat 2)], [], [.inr (false, (0, .ofNat 0))], [(78, (0, .ofNat 2), .inr (false, (4, .ofNat 0))), (78, (0, .ofNat 4), .inr (false, (6, .ofNat 0))), (78, (0, .ofNat 5), .inr (false, (7, .ofNat 0)))], []), 
  (8, [(1, .ofNat 0, .ofNat 1), (2, .ofNat 0, .ofNat 4), (3, .ofNat 0, .ofNat 0), (4, .ofNat 1, .ofNat 600), (5, .ofNat 0, .ofNat 599), (6, .ofNat 0, .ofNat 4), (7, .ofNat 1, .ofNat 600)], [(1, 6, .ofNat 0), (5, 7, .negSucc 0), (6, 2, .ofNat 0), (7, 4, .ofNat 0)], [], [.inr (false, (6, .ofNat 0))], [(78, (0, .ofNat 2), .inr (false, (4, .ofNat 0))), (78, (0, .ofNat 4), .inr (false, (7, .ofNat 0))), (78, (0, .ofNat 5), .inr (false, (3, .ofNat 0)))], [])], [], 0, 0)
def cu2126 : List sxCu := [
  (103, (9, [(1, .ofNat 0, .ofNat 1), (2, .ofNat 0, .ofNat 4), (3, .ofNat 0, .ofNat 0), (4, .ofNat 1, .ofNat 600), (5, .ofNat 0, .ofNat 599), (6, .ofNat 0, .ofNat 599), (7, .negSucc 2147483647, .ofNat 2147483647), (8, .ofNat 1, .ofNat 600)], [(5, 6, .ofNat 0), (5, 8, .negSucc 0), (6, 4, .negSucc 0), (6, 8, .negSucc 0), (8, 4, .ofNat 0)], [(0, .inl 78), (1, .inr (false, (1, .ofNat 0))), (2, .inr (false, (2, .ofNat 0))), (3, .inr (false, (6, .ofNat 0))), (4, .inr (false, (7, .ofNat 0)))], [], [(78, (0, .ofNat 2), .inr (false, (4, .ofNat 0))), (78, (0, .ofNat 4), .inr (false, (8, .ofNat 0))), (78, (0, .ofNat 5), .inr (false, (3, .ofNat 0))), (78, (0, .ofNat 9), .inl 79)], []), ((0, 8, .ofNat 600), (0, 0, .ofNat 0), (0, 0, .ofNat 0)), 0, 0)]
set_option maxRecDepth 1000000 in
theorem cv2126 {gh : sxGh} (hg : sxGd sxKw gh) : sxCtV sxKw gh ct2126 := sxMeB_ok (cts := [ct1933]) (cuts := cu2126) (sp := []) 652 (by decide +kernel) hg (by decide) (by decide) (List.forall_mem_cons.mpr ⟨cv1933 hg, (fun _ h => absurd h List.not_mem_nil)⟩)
/-- LotBeliefsModel.number -/
def ct2127 : sxCt := (204, 2, (6, [(1, .ofNat 0, .ofNat 1), (2, .ofNat 0, .ofNat 15), (3, .ofNat 0, .ofNat 4), (4, .ofNat 0, .ofNat 600), (5, .ofNat 0, .ofNat 600)], [], [(0, .inl 78), (1, .inr (false, (1, .ofNat 0))), (2, .inr (false, (2, .ofNat 0)))], [], [(78, (0, .ofNat 5), .inr (false, (3, .ofNat 0))), (78, (0, .ofNat 2), .inr (false, (4, .ofNat 0))), (78, (0, .ofNat 4), .inr (false, (5, .ofNat 0)))], []), [(78, 5), (78, 6), (78, 7), (579, 5)], [
  (8, [(1, .ofNat 0, .ofNat 1), (2, .ofNat 0, .ofNat 15), (3, .ofNat 0, .ofNat 4), (4, .ofNat 0, .ofNat 600), (5, .ofNat 0, .ofNat 600), (6, .ofNat 0, .ofNat 600), (7, .ofNat 1, .ofNat 4)], [(3, 7, .ofNat 0), (5, 6, .ofNat 0), (7, 3, .ofNat 2)], [], [.inr (false, (0, .ofNat 0))], [(78, (0, .ofNat 2), .inr (false, (4, .ofNat 0))), (78, (0, .ofNat 4), .inr (false, (6, .ofNat 0))), (78, (0, .ofNat 5), .inr (false, (7, .ofNat 0)))], []), 
  (8, [(1, .ofNat 0, .ofNat 1), (2, .ofNat 0, .ofNat 15), (3, .ofNat 0, .ofNat 0), (4, .ofNat 1, .ofNat 600), (5, .ofNat 0, .ofNat 599), (6, .ofNat 0, .ofNat 15), (7, .ofNat 1, .ofNat 600)], [(1, 6, .ofNat 0), (5, 7, .negSucc 0), (6, 2, .ofNat 0), (7, 4, .ofNat 0)], [], [.inr (false, (6, .ofNat 0))], [(78, (0, .ofNat 2), .inr (false, (4, .ofNat 0))), (78, (0, .ofNat 4), .inr (false, (7, .ofNat 0))), (78, (0, .ofNat 5), .inr (false, (3, .ofNat 0)))], [])], [], 0, 0)
def cu2127 : List sxCu := [
  (103, (9, [(1, .ofNat 0, .ofNat 1), (2, .ofNat 0, .ofNat 15), (3, .ofNat 0, .ofNat 0), (4, .ofNat 1, .ofNat 600), (5, .ofNat 0, .ofNat 599), (6, .ofNat 0, .ofNat 599), (7, .negSucc 2147483647, .ofNat 2147483647), (8, .ofNat 1, .ofNat 600)], [(5, 6, .ofNat 0), (5, 8, .negSucc 0), (6, 4, .negSucc 0), (6, 8, .negSucc 0), (8, 4, .ofNat 0)], [(0, .inl 78), (1, .inr (false, (1, .ofNat 0))), (2, .inr (false, (2, .ofNat 0))), (3, .inr (false, (6, .ofNat 0))), (4, .inr (false, (7, .ofNat 0)))], [], [(78, (0, .ofNat 2), .inr (false, (4, .ofNat 0))), (78, (0, .ofNat 4), .inr (false, (8, .ofNat 0))), (78, (0, .ofNat 5), .inr (false, (3, .ofNat 0))), (78, (0, .ofNat 9), .inl 79)], []), ((0, 8, .ofNat 600), (0, 0, .ofNat 0), (0, 0, .ofNat 0)), 0, 0)]
set_option maxRecDepth 1000000 in
theorem cv2127 {gh : sxGh} (hg : sxGd sxKw gh) : sxCtV sxKw gh ct2127 := sxMeB_ok (cts := [ct1933]) (cuts := cu2127) (sp := []) 652 (by decide +kernel) hg (by decide) (by decide) (List.forall_mem_cons.mpr ⟨cv1933 hg, (fun _ h => absurd h List.not_mem_nil)⟩)
/-- LotBeliefsModel.number -/
def ct2128 : sxCt := (204, 2, (6, [(1, .ofNat 0, .ofNat 1), (2, .ofNat 0, .ofNat 51), (3, .ofNat 0, .ofNat 4), (4, .ofNat 0, .ofNat 600), (5, .ofNat 0, .ofNat 600)], [], [(0, .inl 78), (1, .inr (false, (1, .ofNat 0))), (2, .inr (false, (2, .ofNat 0)))], [], [(78, (0, .ofNat 5), .inr (false, (3, .ofNat 0))), (78, (0, .ofNat 2), .inr (false, (4, .ofNat 0))), (78, (0, .ofNat 4), .inr (false, (5, .ofNat 0)))], []), [(78, 5), (78, 6), (78, 7), (579, 5)], [
  (8, [(1, .ofNat 0, .ofNat 1), (2, .ofNat 0, .ofNat 51), (3, .ofNat 0, .ofNat 4), (4, .ofNat 0, .ofNat 600), (5, .ofNat 0, .ofNat 600), (6, .ofNat 0, .ofNat 600), (7, .ofNat 1, .ofNat 4)], [(3, 7, .ofNat 0), (5, 6, .ofNat 0), (7, 3, .ofNat 2)], [], [.inr (false, (0, .ofNat 0))], [(78, (0, .ofNat 2), .inr (false, (4, .ofNat 0))), (78, (0, .ofNat 4), .inr (false, (6, .ofNat 0))), (78, (0, .ofNat 5), .inr (false, (7, .ofNat 0)))], []), 
  (8, [(1, .ofNat 0, .ofNat 1), (2, .ofNat 0, .ofNat 51), (3, .ofNat 0, .ofNat 0), (4, .ofNat 1, .ofNat 600), (5, .ofNat 0, .ofNat 599), (6, .ofNat 0, .ofNat 51), (7, .ofNat 1, .ofNat 600)], [(1, 6, .ofNat 0), (5, 7, .negSucc 0), (6, 2, .ofNat 0), (7, 4, .ofNat 0)], [], [.inr (false, (6, .ofNat 0))], [(78, (0, .ofNat 2), .inr (false, (4, .ofNat 0))), (78, (0, .ofNat 4), .inr (false, (7, .ofNat 0))), (78, (0, .ofNat 5), .inr (false, (3, .ofNat 0)))], [])], [], 0, 0)
def cu2128 : List sxCu := [
  (103, (9, [(1, .ofNat 0, .ofNat 1), (2, .ofNat 0, .ofNat 51), (3, .ofNat 0, .ofNat 0), (4, .ofNat 1, .ofNat 600), (5, .ofNat 0, .ofNat 599), (6, .ofNat 0, .ofNat 599), (7, .negSucc 2147483647, .ofNat 2147483647), (8, .ofNat 1, .ofNat 600)], [(5, 6, .ofNat 0), (5, 8, .negSucc 0), (6, 4, .negSucc 0), (6, 8, .negSucc 0), (8, 4, .ofNat 0)], [(0, .inl 78), (1, .inr (false, (1, .ofNat 0))), (2, .inr (false, (2, .ofNat 0))), (3, .inr (false, (6, .ofNat 0))), (4, .inr (false, (7, .ofNat 0)))], [], [(78, (0, .ofNat 2), .inr (false, (4, .ofNat 0))), (78, (0, .ofNat 4), .inr (false, (8, .ofNat 0))), (78, (0, .ofNat 5), .inr (false, (3, .ofNat 0))), (78, (0, .ofNat 9), .inl 79)], []), ((0, 8, .ofNat 600), (0, 0, .ofNat 0), (0, 0, .ofNat 0)), 0, 0)]
set_option maxRecDepth 1000000 in
theorem cv2128 {gh : sxGh} (hg : sxGd sxKw gh) : sxCtV sxKw gh ct2128 := sxMeB_ok (cts := [ct1933]) (cuts := cu2128) (sp := []) 652 (by decide +kernel) hg (by decide) (by decide) (List.forall_mem_cons.mpr ⟨cv1933 hg, (fun _ h => absurd h List.not_mem_nil)⟩)
/-- LotBeliefsModel.number -/
def ct2129 : sxCt := (204, 2, (6, [(1, .ofNat 0, .ofNat 1), (2, .ofNat 0, .ofNat 6), (3, .ofNat 0, .ofNat 4), (4, .ofNat 0, .ofNat 600), (5, .ofNat 0, .ofNat 600)], [], [(0, .inl 78), (1, .inr (false, (1, .ofNat 0))), (2, .inr (false, (2, .ofNat 0)))], [], [(78, (0, .ofNat 5), .inr (false, (3, .ofNat 0))), (78, (0, .ofNat 2), .inr (false, (4, .ofNat 0))), (78, (0, .ofNat 4), .inr (false, (5, .ofNat 0)))], []), [(78, 5), (78, 6), (78, 7), (579, 5)], [
  (8, [(1, .ofNat 0, .ofNat 1), (2, .ofNat 0, .ofNat 6), (3, .ofNat 0, .ofNat 4), (4, .ofNat 0, .ofNat 600), (5, .ofNat 0, .ofNat 600), (6, .ofNat 0, .ofNat 600), (7, .ofNat 1, .ofNat 4)], [(3, 7, .ofNat 0), (5, 6, .ofNat 0), (7, 3, .ofNat 2)], [], [.inr (false, (0, .ofNat 0))], [(78, (0, .ofNat 2), .inr (false, (4, .ofNat 0))), (78, (0, .ofNat 4), .inr (false, (6, .ofNat 0))), (78, (0, .ofNat 5), .inr (false, (7, .ofNat 0)))], []), 
  (8, [(1, .ofNat 0, .ofNat 1), (2, .ofNat 0, .ofNat 6), (3, .ofNat 0, .ofNat 0), (4, .ofNat 1, .ofNat 600), (5, .ofNat 0, .ofNat 599), (6, .ofNat 0, .ofNat 6), (7, .ofNat 1, .ofNat 600)], [(1, 6, .ofNat 0), (5, 7, .negSucc 0), (6, 2, .ofNat 0), (7, 4, .ofNat 0)], [], [.inr (false, (6, .ofNat 0))], [(78, (0, .ofNat 2), .inr (false, (4, .ofNat 0))), (78, (0, .ofNat 4), .inr (false, (7, .ofNat 0))), (78, (0, .ofNat 5), .inr (false, (3, .ofNat 0)))], [])], [], 0, 0)
def cu2129 : List sxCu := [
  (103, (9, [(1, .ofNat 0, .ofNat 1), (2, .ofNat 0, .ofNat 6), (3, .ofNat 0, .ofNat 0), (4, .ofNat 1, .ofNat 600), (5, .ofNat 0, .ofNat 599), (6, .ofNat 0, .ofNat 599), (7, .negSucc 2147483647, .ofNat 2147483647), (8, .ofNat 1, .ofNat 600)], [(5, 6, .ofNat 0), (5, 8, .negSucc 0), (6, 4, .negSucc 0), (6, 8, .negSucc 0), (8, 4, .ofNat 0)], [(0, .inl 78), (1, .inr (false, (1, .ofNat 0))), (2, .inr (false, (2, .ofNat 0))), (3, .inr (false, (6, .ofNat 0))), (4, .inr (false, (7, .ofNat 0)))], [], [(78, (0, .ofNat 2), .inr (false, (4, .ofNat 0))), (78, (0, .ofNat 4), .inr (false, (8, .ofNat 0))), (78, (0, .ofNat 5), .inr (false, (3, .ofNat 0))), (78, (0, .ofNat 9), .inl 79)], []), ((0, 8, .ofNat 600), (0, 0, .ofNat 0), (0, 0, .ofNat 0)), 0, 0)]
set_option maxRecDepth 1000000 in
theorem cv2129 {gh : sxGh} (hg : sxGd sxKw gh) : sxCtV sxKw gh ct2129 := sxMeB_ok (cts := [ct1933]) (cuts := cu2129) (sp := []) 652 (by decide +kernel) hg (by decide) (by decide) (List.forall_mem_cons.mpr ⟨cv1933 hg, (fun _ h => absurd h List.not_mem_nil)⟩)
end SXC

def zym96 : Nat := 21739857325218978463394402678560151156011129329729828067427207327364959934613876965001142397294821927632088417612646181547755021744364740610505318750894402434128346027092033555518903661374049618451458039625798579485912199020196325754610497257714062006742893904040249061399904540875804047227748405849569924071167594281319047894854261217235964164640997738717437740918194519322958525351877135224143393570237626108012308795336396849904382501357852655458841472138690150710623312536806704449371549656583451099382911239038530724470844442279945810490246682734287088170723598172991232141096002018661707412668875848061310605771756599722946610002733382323408638990075756255950932926693233979678731220914312571331685496445113423544895491173665228635626713231293750195017247323436855274962713554910642850243720798379294443213597134732483310713345761213077418739012653839970924198972036399500869981657146073308323234485137400659757503855049593564857222178893188366071602853505203871067657204475216435239557122995552438955664237349297266607104396234539786174910279254145166897447368260267230184545537625712689612667281313925490144927369809476702097356957633284497152614560495703295853716316165790935228437380165562421433550881036917618085404505545683800016491975779610020145459088070720922496810332681692395534426428127136101146627423399349146652647852455618044307405876456071009249106584635417494864240664035740829494009843575434710805219708852252895782796293160147883333363211681624207640502355045458786027898707479184843613136068267962932211592138916480394880192669525322572434861662853738158120392169814450072043894425605053087744
noncomputable def zyh1873 : zH := (126, [zyr0, zyr1, zyr2, zyr3, zyr4, zyr5, zyr6, zyr7], zym96)
noncomputable def zyc791 : zC := .inr (3, [zyv106, zyv107, zyv108, zyv109, zyv317, zyv128, zyv29, zyv15, zyv36])
noncomputable def zyr717 : List zC := [zyc46, zyc46, zyc47, zyc791, zyc10, zyc11, zyc10, zyc12, zyc49, zyc14, zyc15, zyc50, zyc14, zyc15, zyc51, zyc52]
noncomputable def zyh1874 : zH := (126, [zyr0, zyr1, zyr2, zyr3, zyr4, zyr717, zyr6, zyr7], zym96)
noncomputable def zyc792 : zC := .inr (3, [zyv106, zyv107, zyv108, zyv109, zyv359, zyv36, zyv29, zyv15, zyv36])
noncomputable def zyr718 : List zC := [zyc46, zyc46, zyc47, zyc792, zyc10, zyc11, zyc10, zyc12, zyc49, zyc14, zyc15, zyc50, zyc14, zyc15, zyc51, zyc52]
noncomputable def zyh1875 : zH := (126, [zyr0, zyr1, zyr2, zyr3, zyr4, zyr718, zyr6, zyr7], zym96)
noncomputable def zyc793 : zC := .inr (3, [zyv106, zyv107, zyv108, zyv109, zyv358, zyv425, zyv29, zyv15, zyv36])
noncomputable def zyr719 : List zC := [zyc46, zyc46, zyc47, zyc793, zyc10, zyc11, zyc10, zyc12, zyc49, zyc14, zyc15, zyc50, zyc14, zyc15, zyc51, zyc52]
noncomputable def zyh1876 : zH := (126, [zyr0, zyr1, zyr2, zyr3, zyr4, zyr719, zyr6, zyr7], zym96)
noncomputable def zyc794 : zC := .inr (3, [zyv106, zyv107, zyv108, zyv109, zyv357, zyv431, zyv29, zyv15, zyv36])
noncomputable def zyr720 : List zC := [zyc46, zyc46, zyc47, zyc794, zyc10, zyc11, zyc10, zyc12, zyc49, zyc14, zyc15, zyc50, zyc14, zyc15, zyc51, zyc52]
noncomputable def zyh1877 : zH := (126, [zyr0, zyr1, zyr2, zyr3, zyr4, zyr720, zyr6, zyr7], zym96)
noncomputable def zyc795 : zC := .inr (3, [zyv106, zyv107, zyv108, zyv109, zyv356, zyv29, zyv29, zyv15, zyv36])
noncomputable def zyr721 : List zC := [zyc46, zyc46, zyc47, zyc795, zyc10, zyc11, zyc10, zyc12, zyc49, zyc14, zyc15, zyc50, zyc14, zyc15, zyc51, zyc52]
noncomputable def zyh1878 : zH := (126, [zyr0, zyr1, zyr2, zyr3, zyr4, zyr721, zyr6, zyr7], zym96)
noncomputable def zyc796 : zC := .inr (3, [zyv106, zyv107, zyv108, zyv109, zyv355, zyv430, zyv29, zyv15, zyv36])
noncomputable def zyr722 : List zC := [zyc46, zyc46, zyc47, zyc796, zyc10, zyc11, zyc10, zyc12, zyc49, zyc14, zyc15, zyc50, zyc14, zyc15, zyc51, zyc52]
noncomputable def zyh1879 : zH := (126, [zyr0, zyr1, zyr2, zyr3, zyr4, zyr722, zyr6, zyr7], zym96)
noncomputable def zyc797 : zC := .inr (3, [zyv106, zyv107, zyv108, zyv109, zyv354, zyv429, zyv29, zyv15, zyv36])
noncomputable def zyr723 : List zC := [zyc46, zyc46, zyc47, zyc797, zyc10, zyc11, zyc10, zyc12, zyc49, zyc14, zyc15, zyc50, zyc14, zyc15, zyc51, zyc52]
noncomputable def zyh1880 : zH := (126, [zyr0, zyr1, zyr2, zyr3, zyr4, zyr723, zyr6, zyr7], zym96)
noncomputable def zyc798 : zC := .inr (3, [zyv106, zyv107, zyv108, zyv109, zyv353, zyv101, zyv29, zyv15, zyv36])
noncomputable def zyr724 : List zC := [zyc46, zyc46, zyc47, zyc798, zyc10, zyc11, zyc10, zyc12, zyc49, zyc14, zyc15, zyc50, zyc14, zyc15, zyc51, zyc52]
noncomputable def zyh1881 : zH := (126, [zyr0, zyr1, zyr2, zyr3, zyr4, zyr724, zyr6, zyr7], zym96)
noncomputable def zyc799 : zC := .inr (3, [zyv106, zyv107, zyv108, zyv109, zyv352, zyv25, zyv29, zyv15, zyv36])
noncomputable def zyr725 : List zC := [zyc46, zyc46, zyc47, zyc799, zyc10, zyc11, zyc10, zyc12, zyc49, zyc14, zyc15, zyc50, zyc14, zyc15, zyc51, zyc52]
noncomputable def zyh1882 : zH := (126, [zyr0, zyr1, zyr2, zyr3, zyr4, zyr725, zyr6, zyr7], zym96)
noncomputable def zyc800 : zC := .inr (3, [zyv106, zyv107, zyv108, zyv109, zyv351, zyv27, zyv29, zyv15, zyv36])
noncomputable def zyr726 : List zC := [zyc46, zyc46, zyc47, zyc800, zyc10, zyc11, zyc10, zyc12, zyc49, zyc14, zyc15, zyc50, zyc14, zyc15, zyc51, zyc52]
noncomputable def zyh1883 : zH := (126, [zyr0, zyr1, zyr2, zyr3, zyr4, zyr726, zyr6, zyr7], zym96)
def zyv432 : zAV := .inl ((.ofNat 0, .ofNat 10), none)
noncomputable def zyc801 : zC := .inr (3, [zyv106, zyv107, zyv108, zyv109, zyv350, zyv432, zyv29, zyv15, zyv36])
noncomputable def zyr727 : List zC := [zyc46, zyc46, zyc47, zyc801, zyc10, zyc11, zyc10, zyc12, zyc49, zyc14, zyc15, zyc50, zyc14, zyc15, zyc51, zyc52]
noncomputable def zyh1884 : zH := (126, [zyr0, zyr1, zyr2, zyr3, zyr4, zyr727, zyr6, zyr7], zym96)
noncomputable def zyc802 : zC := .inr (3, [zyv106, zyv107, zyv108, zyv109, zyv349, zyv47, zyv29, zyv15, zyv36])
noncomputable def zyr728 : List zC := [zyc46, zyc46, zyc47, zyc802, zyc10, zyc11, zyc10, zyc12, zyc49, zyc14, zyc15, zyc50, zyc14, zyc15, zyc51, zyc52]
noncomputable def zyh1885 : zH := (126, [zyr0, zyr1, zyr2, zyr3, zyr4, zyr728, zyr6, zyr7], zym96)
noncomputable def zyc803 : zC := .inr (3, [zyv106, zyv107, zyv108, zyv109, zyv348, zyv13, zyv29, zyv15, zyv36])
noncomputable def zyr729 : List zC := [zyc46, zyc46, zyc47, zyc803, zyc10, zyc11, zyc10, zyc12, zyc49, zyc14, zyc15, zyc50, zyc14, zyc15, zyc51, zyc52]
noncomputable def zyh1886 : zH := (126, [zyr0, zyr1, zyr2, zyr3, zyr4, zyr729, zyr6, zyr7], zym96)
def zyv433 : zAV := .inl ((.ofNat 0, .ofNat 13), none)
noncomputable def zyc804 : zC := .inr (3, [zyv106, zyv107, zyv108, zyv109, zyv347, zyv433, zyv29, zyv15, zyv36])
noncomputable def zyr730 : List zC := [zyc46, zyc46, zyc47, zyc804, zyc10, zyc11, zyc10, zyc12, zyc49, zyc14, zyc15, zyc50, zyc14, zyc15, zyc51, zyc52]
noncomputable def zyh1887 : zH := (126, [zyr0, zyr1, zyr2, zyr3, zyr4, zyr730, zyr6, zyr7], zym96)
def zyv434 : zAV := .inl ((.ofNat 0, .ofNat 14), none)
noncomputable def zyc805 : zC := .inr (3, [zyv106, zyv107, zyv108, zyv109, zyv346, zyv434, zyv29, zyv15, zyv36])
noncomputable def zyr731 : List zC := [zyc46, zyc46, zyc47, zyc805, zyc10, zyc11, zyc10, zyc12, zyc49, zyc14, zyc15, zyc50, zyc14, zyc15, zyc51, zyc52]
noncomputable def zyh1888 : zH := (126, [zyr0, zyr1, zyr2, zyr3, zyr4, zyr731, zyr6, zyr7], zym96)
def zyv435 : zAV := .inl ((.ofNat 0, .ofNat 15), none)
noncomputable def zyc806 : zC := .inr (3, [zyv106, zyv107, zyv108, zyv109, zyv345, zyv435, zyv29, zyv15, zyv36])
noncomputable def zyr732 : List zC := [zyc46, zyc46, zyc47, zyc806, zyc10, zyc11, zyc10, zyc12, zyc49, zyc14, zyc15, zyc50, zyc14, zyc15, zyc51, zyc52]
noncomputable def zyh1889 : zH := (126, [zyr0, zyr1, zyr2, zyr3, zyr4, zyr732, zyr6, zyr7], zym96)
def zyv436 : zAV := .inl ((.ofNat 0, .ofNat 16), none)
noncomputable def zyc807 : zC := .inr (3, [zyv106, zyv107, zyv108, zyv109, zyv344, zyv436, zyv29, zyv15, zyv36])
noncomputable def zyr733 : List zC := [zyc46, zyc46, zyc47, zyc807, zyc10, zyc11, zyc10, zyc12, zyc49, zyc14, zyc15, zyc50, zyc14, zyc15, zyc51, zyc52]
noncomputable def zyh1890 : zH := (126, [zyr0, zyr1, zyr2, zyr3, zyr4, zyr733, zyr6, zyr7], zym96)
def zyv437 : zAV := .inl ((.ofNat 0, .ofNat 17), none)
noncomputable def zyc808 : zC := .inr (3, [zyv106, zyv107, zyv108, zyv109, zyv343, zyv437, zyv29, zyv15, zyv36])
noncomputable def zyr734 : List zC := [zyc46, zyc46, zyc47, zyc808, zyc10, zyc11, zyc10, zyc12, zyc49, zyc14, zyc15, zyc50, zyc14, zyc15, zyc51, zyc52]
noncomputable def zyh1891 : zH := (126, [zyr0, zyr1, zyr2, zyr3, zyr4, zyr734, zyr6, zyr7], zym96)
def zyv438 : zAV := .inl ((.ofNat 0, .ofNat 18), none)
noncomputable def zyc809 : zC := .inr (3, [zyv106, zyv107, zyv108, zyv109, zyv342, zyv438, zyv29, zyv15, zyv36])
noncomputable def zyr735 : List zC := [zyc46, zyc46, zyc47, zyc809, zyc10, zyc11, zyc10, zyc12, zyc49, zyc14, zyc15, zyc50, zyc14, zyc15, zyc51, zyc52]
noncomputable def zyh1892 : zH := (126, [zyr0, zyr1, zyr2, zyr3, zyr4, zyr735, zyr6, zyr7], zym96)
def zyv439 : zAV := .inl ((.ofNat 0, .ofNat 19), none)
noncomputable def zyc810 : zC := .inr (3, [zyv106, zyv107, zyv108, zyv109, zyv341, zyv439, zyv29, zyv15, zyv36])
noncomputable def zyr736 : List zC := [zyc46, zyc46, zyc47, zyc810, zyc10, zyc11, zyc10, zyc12, zyc49, zyc14, zyc15, zyc50, zyc14, zyc15, zyc51, zyc52]
noncomputable def zyh1893 : zH := (126, [zyr0, zyr1, zyr2, zyr3, zyr4, zyr736, zyr6, zyr7], zym96)
def zyv440 : zAV := .inl ((.ofNat 0, .ofNat 20), none)
noncomputable def zyc811 : zC := .inr (3, [zyv106, zyv107, zyv108, zyv109, zyv340, zyv440, zyv29, zyv15, zyv36])
noncomputable def zyr737 : List zC := [zyc46, zyc46, zyc47, zyc811, zyc10, zyc11, zyc10, zyc12, zyc49, zyc14, zyc15, zyc50, zyc14, zyc15, zyc51, zyc52]
noncomputable def zyh1894 : zH := (126, [zyr0, zyr1, zyr2, zyr3, zyr4, zyr737, zyr6, zyr7], zym96)
def zyv441 : zAV := .inl ((.ofNat 0, .ofNat 21), none)
noncomputable def zyc812 : zC := .inr (3, [zyv106, zyv107, zyv108, zyv109, zyv339, zyv441, zyv29, zyv15, zyv36])
noncomputable def zyr738 : List zC := [zyc46, zyc46, zyc47, zyc812, zyc10, zyc11, zyc10, zyc12, zyc49, zyc14, zyc15, zyc50, zyc14, zyc15, zyc51, zyc52]
noncomputable def zyh1895 : zH := (126, [zyr0, zyr1, zyr2, zyr3, zyr4, zyr738, zyr6, zyr7], zym96)
def zyv442 : zAV := .inl ((.ofNat 0, .ofNat 22), none)
noncomputable def zyc813 : zC := .inr (3, [zyv106, zyv107, zyv108, zyv109, zyv338, zyv442, zyv29, zyv15, zyv36])
noncomputable def zyr739 : List zC := [zyc46, zyc46, zyc47, zyc813, zyc10, zyc11, zyc10, zyc12, zyc49, zyc14, zyc15, zyc50, zyc14, zyc15, zyc51, zyc52]
noncomputable def zyh1896 : zH := (126, [zyr0, zyr1, zyr2, zyr3, zyr4, zyr739, zyr6, zyr7], zym96)
def zyv443 : zAV := .inl ((.ofNat 0, .ofNat 23), none)
noncomputable def zyc814 : zC := .inr (3, [zyv106, zyv107, zyv108, zyv109, zyv337, zyv443, zyv29, zyv15, zyv36])
noncomputable def zyr740 : List zC := [zyc46, zyc46, zyc47, zyc814, zyc10, zyc11, zyc10, zyc12, zyc49, zyc14, zyc15, zyc50, zyc14, zyc15, zyc51, zyc52]
noncomputable def zyh1897 : zH := (126, [zyr0, zyr1, zyr2, zyr3, zyr4, zyr740, zyr6, zyr7], zym96)
def zyv444 : zAV := .inl ((.ofNat 0, .ofNat 24), none)
noncomputable def zyc815 : zC := .inr (3, [zyv106, zyv107, zyv108, zyv109, zyv336, zyv444, zyv29, zyv15, zyv36])
noncomputable def zyr741 : List zC := [zyc46, zyc46, zyc47, zyc815, zyc10, zyc11, zyc10, zyc12, zyc49, zyc14, zyc15, zyc50, zyc14, zyc15, zyc51, zyc52]
noncomputable def zyh1898 : zH := (126, [zyr0, zyr1, zyr2, zyr3, zyr4, zyr741, zyr6, zyr7], zym96)
def zyv445 : zAV := .inl ((.ofNat 0, .ofNat 25), none)
noncomputable def zyc816 : zC := .inr (3, [zyv106, zyv107, zyv108, zyv109, zyv335, zyv445, zyv29, zyv15, zyv36])
noncomputable def zyr742 : List zC := [zyc46, zyc46, zyc47, zyc816, zyc10, zyc11, zyc10, zyc12, zyc49, zyc14, zyc15, zyc50, zyc14, zyc15, zyc51, zyc52]
noncomputable def zyh1899 : zH := (126, [zyr0, zyr1, zyr2, zyr3, zyr4, zyr742, zyr6, zyr7], zym96)
def zyv446 : zAV := .inl ((.ofNat 0, .ofNat 26), none)
noncomputable def zyc817 : zC := .inr (3, [zyv106, zyv107, zyv108, zyv109, zyv334, zyv446, zyv29, zyv15, zyv36])
noncomputable def zyr743 : List zC := [zyc46, zyc46, zyc47, zyc817, zyc10, zyc11, zyc10, zyc12, zyc49, zyc14, zyc15, zyc50, zyc14, zyc15, zyc51, zyc52]
noncomputable def zyh1900 : zH := (126, [zyr0, zyr1, zyr2, zyr3, zyr4, zyr743, zyr6, zyr7], zym96)
def zyv447 : zAV := .inl ((.ofNat 0, .ofNat 27), none)
noncomputable def zyc818 : zC := .inr (3, [zyv106, zyv107, zyv108, zyv109, zyv333, zyv447, zyv29, zyv15, zyv36])
noncomputable def zyr744 : List zC := [zyc46, zyc46, zyc47, zyc818, zyc10, zyc11, zyc10, zyc12, zyc49, zyc14, zyc15, zyc50, zyc14, zyc15, zyc51, zyc52]
noncomputable def zyh1901 : zH := (126, [zyr0, zyr1, zyr2, zyr3, zyr4, zyr744, zyr6, zyr7], zym96)
def zyv448 : zAV := .inl ((.ofNat 0, .ofNat 28), none)
noncomputable def zyc819 : zC := .inr (3, [zyv106, zyv107, zyv108, zyv109, zyv332, zyv448, zyv29, zyv15, zyv36])
noncomputable def zyr745 : List zC := [zyc46, zyc46, zyc47, zyc819, zyc10, zyc11, zyc10, zyc12, zyc49, zyc14, zyc15, zyc50, zyc14, zyc15, zyc51, zyc52]
noncomputable def zyh1902 : zH := (126, [zyr0, zyr1, zyr2, zyr3, zyr4, zyr745, zyr6, zyr7], zym96)
def zyv449 : zAV := .inl ((.ofNat 0, .ofNat 29), none)
noncomputable def zyc820 : zC := .inr (3, [zyv106, zyv107, zyv108, zyv109, zyv331, zyv449, zyv29, zyv15, zyv36])
noncomputable def zyr746 : List zC := [zyc46, zyc46, zyc47, zyc820, zyc10, zyc11, zyc10, zyc12, zyc49, zyc14, zyc15, zyc50, zyc14, zyc15, zyc51, zyc52]
noncomputable def zyh1903 : zH := (126, [zyr0, zyr1, zyr2, zyr3, zyr4, zyr746, zyr6, zyr7], zym96)
def zyv450 : zAV := .inl ((.ofNat 0, .ofNat 30), none)
noncomputable def zyc821 : zC := .inr (3, [zyv106, zyv107, zyv108, zyv109, zyv330, zyv450, zyv29, zyv15, zyv36])
noncomputable def zyr747 : List zC := [zyc46, zyc46, zyc47, zyc821, zyc10, zyc11, zyc10, zyc12, zyc49, zyc14, zyc15, zyc50, zyc14, zyc15, zyc51, zyc52]
noncomputable def zyh1904 : zH := (126, [zyr0, zyr1, zyr2, zyr3, zyr4, zyr747, zyr6, zyr7], zym96)
def zyv451 : zAV := .inl ((.ofNat 0, .ofNat 31), none)
noncomputable def zyc822 : zC := .inr (3, [zyv106, zyv107, zyv108, zyv109, zyv329, zyv451, zyv29, zyv15, zyv36])
noncomputable def zyr748 : List zC := [zyc46, zyc46, zyc47, zyc822, zyc10, zyc11, zyc10, zyc12, zyc49, zyc14, zyc15, zyc50, zyc14, zyc15, zyc51, zyc52]
noncomputable def zyh1905 : zH := (126, [zyr0, zyr1, zyr2, zyr3, zyr4, zyr748, zyr6, zyr7], zym96)
def zyv452 : zAV := .inl ((.ofNat 0, .ofNat 32), none)
noncomputable def zyc823 : zC := .inr (3, [zyv106, zyv107, zyv108, zyv109, zyv328, zyv452, zyv29, zyv15, zyv36])
noncomputable def zyr749 : List zC := [zyc46, zyc46, zyc47, zyc823, zyc10, zyc11, zyc10, zyc12, zyc49, zyc14, zyc15, zyc50, zyc14, zyc15, zyc51, zyc52]
noncomputable def zyh1906 : zH := (126, [zyr0, zyr1, zyr2, zyr3, zyr4, zyr749, zyr6, zyr7], zym96)
def zyv453 : zAV := .inl ((.ofNat 0, .ofNat 33), none)
noncomputable def zyc824 : zC := .inr (3, [zyv106, zyv107, zyv108, zyv109, zyv327, zyv453, zyv29, zyv15, zyv36])
noncomputable def zyr750 : List zC := [zyc46, zyc46, zyc47, zyc824, zyc10, zyc11, zyc10, zyc12, zyc49, zyc14, zyc15, zyc50, zyc14, zyc15, zyc51, zyc52]
noncomputable def zyh1907 : zH := (126, [zyr0, zyr1, zyr2, zyr3, zyr4, zyr750, zyr6, zyr7], zym96)
def zyv454 : zAV := .inl ((.ofNat 0, .ofNat 34), none)
noncomputable def zyc825 : zC := .inr (3, [zyv106, zyv107, zyv108, zyv109, zyv326, zyv454, zyv29, zyv15, zyv36])
noncomputable def zyr751 : List zC := [zyc46, zyc46, zyc47, zyc825, zyc10, zyc11, zyc10, zyc12, zyc49, zyc14, zyc15, zyc50, zyc14, zyc15, zyc51, zyc52]
noncomputable def zyh1908 : zH := (126, [zyr0, zyr1, zyr2, zyr3, zyr4, zyr751, zyr6, zyr7], zym96)
def zyv455 : zAV := .inl ((.ofNat 0, .ofNat 35), none)
noncomputable def zyc826 : zC := .inr (3, [zyv106, zyv107, zyv108, zyv109, zyv325, zyv455, zyv29, zyv15, zyv36])
noncomputable def zyr752 : List zC := [zyc46, zyc46, zyc47, zyc826, zyc10, zyc11, zyc10, zyc12, zyc49, zyc14, zyc15, zyc50, zyc14, zyc15, zyc51, zyc52]
noncomputable def zyh1909 : zH := (126, [zyr0, zyr1, zyr2, zyr3, zyr4, zyr752, zyr6, zyr7], zym96)
def zyv456 : zAV := .inl ((.ofNat 0, .ofNat 36), none)
noncomputable def zyc827 : zC := .inr (3, [zyv106, zyv107, zyv108, zyv109, zyv324, zyv456, zyv29, zyv15, zyv36])
noncomputable def zyr753 : List zC := [zyc46, zyc46, zyc47, zyc827, zyc10, zyc11, zyc10, zyc12, zyc49, zyc14, zyc15, zyc50, zyc14, zyc15, zyc51, zyc52]
noncomputable def zyh1910 : zH := (126, [zyr0, zyr1, zyr2, zyr3, zyr4, zyr753, zyr6, zyr7], zym96)
def zyv457 : zAV := .inl ((.ofNat 0, .ofNat 37), none)
noncomputable def zyc828 : zC := .inr (3, [zyv106, zyv107, zyv108, zyv109, zyv323, zyv457, zyv29, zyv15, zyv36])
noncomputable def zyr754 : List zC := [zyc46, zyc46, zyc47, zyc828, zyc10, zyc11, zyc10, zyc12, zyc49, zyc14, zyc15, zyc50, zyc14, zyc15, zyc51, zyc52]
noncomputable def zyh1911 : zH := (126, [zyr0, zyr1, zyr2, zyr3, zyr4, zyr754, zyr6, zyr7], zym96)
def zyv458 : zAV := .inl ((.ofNat 0, .ofNat 38), none)
noncomputable def zyc829 : zC := .inr (3, [zyv106, zyv107, zyv108, zyv109, zyv322, zyv458, zyv29, zyv15, zyv36])
noncomputable def zyr755 : List zC := [zyc46, zyc46, zyc47, zyc829, zyc10, zyc11, zyc10, zyc12, zyc49, zyc14, zyc15, zyc50, zyc14, zyc15, zyc51, zyc52]
noncomputable def zyh1912 : zH := (126, [zyr0, zyr1, zyr2, zyr3, zyr4, zyr755, zyr6, zyr7], zym96)
def zyv459 : zAV := .inl ((.ofNat 0, .ofNat 39), none)
noncomputable def zyc830 : zC := .inr (3, [zyv106, zyv107, zyv108, zyv109, zyv320, zyv459, zyv29, zyv15, zyv36])
noncomputable def zyr756 : List zC := [zyc46, zyc46, zyc47, zyc830, zyc10, zyc11, zyc10, zyc12, zyc49, zyc14, zyc15, zyc50, zyc14, zyc15, zyc51, zyc52]
noncomputable def zyh1913 : zH := (126, [zyr0, zyr1, zyr2, zyr3, zyr4, zyr756, zyr6, zyr7], zym96)
/-! X3_reckonDownTo -/
noncomputable def zyx780a : List zAV := [.inr (.inr (.inl 83)), .inl ((.ofNat 1, .ofNat 3), none)]
def zyx780r : Option zAV := none
noncomputable def zyx780q0 : zPw := ((0, ([(0, .inr (.inr (.inl 83))), (1, .inl ((.ofNat 1, .ofNat 3), some (1, .ofNat 0)))], [], zyh1874, 0, 0), [], .ofNat 1), (zyx780r, zyh1873), 3, 420)
noncomputable def zbzyx780c0 : Bool := zchkX [] zprog2 (zovW []) 100000 k2X3_reckonDownTo [] [zyx780q0] [zyx780q0]
noncomputable def zyx780q1 : zPw := ((0, ([(0, .inr (.inr (.inl 83))), (1, .inl ((.ofNat 1, .ofNat 3), some (1, .ofNat 0)))], [], zyh1875, 0, 0), [], .ofNat 3), (zyx780r, zyh1873), 3, 420)
noncomputable def zbzyx780c1 : Bool := zchkX [] zprog2 (zovW []) 100000 k2X3_reckonDownTo [zyx780q0] [zyx780q1] [zyx780q1]
noncomputable def zyx780q2 : zPw := ((0, ([(0, .inr (.inr (.inl 83))), (1, .inl ((.ofNat 1, .ofNat 3), some (1, .ofNat 0)))], [], zyh1876, 0, 0), [], .ofNat 5), (zyx780r, zyh1873), 3, 420)
noncomputable def zbzyx780c2 : Bool := zchkX [] zprog2 (zovW []) 100000 k2X3_reckonDownTo [zyx780q1] [zyx780q2] [zyx780q2]
noncomputable def zyx780q3 : zPw := ((0, ([(0, .inr (.inr (.inl 83))), (1, .inl ((.ofNat 1, .ofNat 3), some (1, .ofNat 0)))], [], zyh1877, 0, 0), [], .ofNat 7), (zyx780r, zyh1873), 3, 420)
noncomputable def zbzyx780c3 : Bool := zchkX [] zprog2 (zovW []) 100000 k2X3_reckonDownTo [zyx780q2] [zyx780q3] [zyx780q3]
noncomputable def zyx780q4 : zPw := ((0, ([(0, .inr (.inr (.inl 83))), (1, .inl ((.ofNat 1, .ofNat 3), some (1, .ofNat 0)))], [], zyh1878, 0, 0), [], .ofNat 9), (zyx780r, zyh1873), 3, 420)
noncomputable def zbzyx780c4 : Bool := zchkX [] zprog2 (zovW []) 100000 k2X3_reckonDownTo [zyx780q3] [zyx780q4] [zyx780q4]
noncomputable def zyx780q5 : zPw := ((0, ([(0, .inr (.inr (.inl 83))), (1, .inl ((.ofNat 1, .ofNat 3), some (1, .ofNat 0)))], [], zyh1879, 0, 0), [], .ofNat 11), (zyx780r, zyh1873), 3, 420)
noncomputable def zbzyx780c5 : Bool := zchkX [] zprog2 (zovW []) 100000 k2X3_reckonDownTo [zyx780q4] [zyx780q5] [zyx780q5]
noncomputable def zyx780q6 : zPw := ((0, ([(0, .inr (.inr (.inl 83))), (1, .inl ((.ofNat 1, .ofNat 3), some (1, .ofNat 0)))], [], zyh1880, 0, 0), [], .ofNat 13), (zyx780r, zyh1873), 3, 420)
noncomputable def zbzyx780c6 : Bool := zchkX [] zprog2 (zovW []) 100000 k2X3_reckonDownTo [zyx780q5] [zyx780q6] [zyx780q6]
noncomputable def zyx780q7 : zPw := ((0, ([(0, .inr (.inr (.inl 83))), (1, .inl ((.ofNat 1, .ofNat 3), some (1, .ofNat 0)))], [], zyh1881, 0, 0), [], .ofNat 15), (zyx780r, zyh1873), 3, 420)
noncomputable def zbzyx780c7 : Bool := zchkX [] zprog2 (zovW []) 100000 k2X3_reckonDownTo [zyx780q6] [zyx780q7] [zyx780q7]
noncomputable def zyx780q8 : zPw := ((0, ([(0, .inr (.inr (.inl 83))), (1, .inl ((.ofNat 1, .ofNat 3), some (1, .ofNat 0)))], [], zyh1882, 0, 0), [], .ofNat 17), (zyx780r, zyh1873), 3, 420)
noncomputable def zbzyx780c8 : Bool := zchkX [] zprog2 (zovW []) 100000 k2X3_reckonDownTo [zyx780q7] [zyx780q8] [zyx780q8]
noncomputable def zyx780q9 : zPw := ((0, ([(0, .inr (.inr (.inl 83))), (1, .inl ((.ofNat 1, .ofNat 3), some (1, .ofNat 0)))], [], zyh1883, 0, 0), [], .ofNat 19), (zyx780r, zyh1873), 3, 420)
noncomputable def zbzyx780c9 : Bool := zchkX [] zprog2 (zovW []) 100000 k2X3_reckonDownTo [zyx780q8] [zyx780q9] [zyx780q9]
noncomputable def zyx780q10 : zPw := ((0, ([(0, .inr (.inr (.inl 83))), (1, .inl ((.ofNat 1, .ofNat 3), some (1, .ofNat 0)))], [], zyh1884, 0, 0), [], .ofNat 21), (zyx780r, zyh1873), 3, 420)
noncomputable def zbzyx780c10 : Bool := zchkX [] zprog2 (zovW []) 100000 k2X3_reckonDownTo [zyx780q9] [zyx780q10] [zyx780q10]
noncomputable def zyx780q11 : zPw := ((0, ([(0, .inr (.inr (.inl 83))), (1, .inl ((.ofNat 1, .ofNat 3), some (1, .ofNat 0)))], [], zyh1885, 0, 0), [], .ofNat 23), (zyx780r, zyh1873), 3, 420)
noncomputable def zbzyx780c11 : Bool := zchkX [] zprog2 (zovW []) 100000 k2X3_reckonDownTo [zyx780q10] [zyx780q11] [zyx780q11]
noncomputable def zyx780q12 : zPw := ((0, ([(0, .inr (.inr (.inl 83))), (1, .inl ((.ofNat 1, .ofNat 3), some (1, .ofNat 0)))], [], zyh1886, 0, 0), [], .ofNat 25), (zyx780r, zyh1873), 3, 420)
noncomputable def zbzyx780c12 : Bool := zchkX [] zprog2 (zovW []) 100000 k2X3_reckonDownTo [zyx780q11] [zyx780q12] [zyx780q12]
noncomputable def zyx780q13 : zPw := ((0, ([(0, .inr (.inr (.inl 83))), (1, .inl ((.ofNat 1, .ofNat 3), some (1, .ofNat 0)))], [], zyh1887, 0, 0), [], .ofNat 27), (zyx780r, zyh1873), 3, 420)
noncomputable def zbzyx780c13 : Bool := zchkX [] zprog2 (zovW []) 100000 k2X3_reckonDownTo [zyx780q12] [zyx780q13] [zyx780q13]
noncomputable def zyx780q14 : zPw := ((0, ([(0, .inr (.inr (.inl 83))), (1, .inl ((.ofNat 1, .ofNat 3), some (1, .ofNat 0)))], [], zyh1888, 0, 0), [], .ofNat 29), (zyx780r, zyh1873), 3, 420)
noncomputable def zbzyx780c14 : Bool := zchkX [] zprog2 (zovW []) 100000 k2X3_reckonDownTo [zyx780q13] [zyx780q14] [zyx780q14]
noncomputable def zyx780q15 : zPw := ((0, ([(0, .inr (.inr (.inl 83))), (1, .inl ((.ofNat 1, .ofNat 3), some (1, .ofNat 0)))], [], zyh1889, 0, 0), [], .ofNat 31), (zyx780r, zyh1873), 3, 420)
noncomputable def zbzyx780c15 : Bool := zchkX [] zprog2 (zovW []) 100000 k2X3_reckonDownTo [zyx780q14] [zyx780q15] [zyx780q15]
noncomputable def zyx780q16 : zPw := ((0, ([(0, .inr (.inr (.inl 83))), (1, .inl ((.ofNat 1, .ofNat 3), some (1, .ofNat 0)))], [], zyh1890, 0, 0), [], .ofNat 33), (zyx780r, zyh1873), 3, 420)
noncomputable def zbzyx780c16 : Bool := zchkX [] zprog2 (zovW []) 100000 k2X3_reckonDownTo [zyx780q15] [zyx780q16] [zyx780q16]
noncomputable def zyx780q17 : zPw := ((0, ([(0, .inr (.inr (.inl 83))), (1, .inl ((.ofNat 1, .ofNat 3), some (1, .ofNat 0)))], [], zyh1891, 0, 0), [], .ofNat 35), (zyx780r, zyh1873), 3, 420)
noncomputable def zbzyx780c17 : Bool := zchkX [] zprog2 (zovW []) 100000 k2X3_reckonDownTo [zyx780q16] [zyx780q17] [zyx780q17]
noncomputable def zyx780q18 : zPw := ((0, ([(0, .inr (.inr (.inl 83))), (1, .inl ((.ofNat 1, .ofNat 3), some (1, .ofNat 0)))], [], zyh1892, 0, 0), [], .ofNat 37), (zyx780r, zyh1873), 3, 420)
noncomputable def zbzyx780c18 : Bool := zchkX [] zprog2 (zovW []) 100000 k2X3_reckonDownTo [zyx780q17] [zyx780q18] [zyx780q18]
noncomputable def zyx780q19 : zPw := ((0, ([(0, .inr (.inr (.inl 83))), (1, .inl ((.ofNat 1, .ofNat 3), some (1, .ofNat 0)))], [], zyh1893, 0, 0), [], .ofNat 39), (zyx780r, zyh1873), 3, 420)
noncomputable def zbzyx780c19 : Bool := zchkX [] zprog2 (zovW []) 100000 k2X3_reckonDownTo [zyx780q18] [zyx780q19] [zyx780q19]
noncomputable def zyx780q20 : zPw := ((0, ([(0, .inr (.inr (.inl 83))), (1, .inl ((.ofNat 1, .ofNat 3), some (1, .ofNat 0)))], [], zyh1894, 0, 0), [], .ofNat 41), (zyx780r, zyh1873), 3, 420)
noncomputable def zbzyx780c20 : Bool := zchkX [] zprog2 (zovW []) 100000 k2X3_reckonDownTo [zyx780q19] [zyx780q20] [zyx780q20]
noncomputable def zyx780q21 : zPw := ((0, ([(0, .inr (.inr (.inl 83))), (1, .inl ((.ofNat 1, .ofNat 3), some (1, .ofNat 0)))], [], zyh1895, 0, 0), [], .ofNat 43), (zyx780r, zyh1873), 3, 420)
noncomputable def zbzyx780c21 : Bool := zchkX [] zprog2 (zovW []) 100000 k2X3_reckonDownTo [zyx780q20] [zyx780q21] [zyx780q21]
noncomputable def zyx780q22 : zPw := ((0, ([(0, .inr (.inr (.inl 83))), (1, .inl ((.ofNat 1, .ofNat 3), some (1, .ofNat 0)))], [], zyh1896, 0, 0), [], .ofNat 45), (zyx780r, zyh1873), 3, 420)
noncomputable def zbzyx780c22 : Bool := zchkX [] zprog2 (zovW []) 100000 k2X3_reckonDownTo [zyx780q21] [zyx780q22] [zyx780q22]
noncomputable def zyx780q23 : zPw := ((0, ([(0, .inr (.inr (.inl 83))), (1, .inl ((.ofNat 1, .ofNat 3), some (1, .ofNat 0)))], [], zyh1897, 0, 0), [], .ofNat 47), (zyx780r, zyh1873), 3, 420)
noncomputable def zbzyx780c23 : Bool := zchkX [] zprog2 (zovW []) 100000 k2X3_reckonDownTo [zyx780q22] [zyx780q23] [zyx780q23]
noncomputable def zyx780q24 : zPw := ((0, ([(0, .inr (.inr (.inl 83))), (1, .inl ((.ofNat 1, .ofNat 3), some (1, .ofNat 0)))], [], zyh1898, 0, 0), [], .ofNat 49), (zyx780r, zyh1873), 3, 420)
noncomputable def zbzyx780c24 : Bool := zchkX [] zprog2 (zovW []) 100000 k2X3_reckonDownTo [zyx780q23] [zyx780q24] [zyx780q24]
noncomputable def zyx780q25 : zPw := ((0, ([(0, .inr (.inr (.inl 83))), (1, .inl ((.ofNat 1, .ofNat 3), some (1, .ofNat 0)))], [], zyh1899, 0, 0), [], .ofNat 51), (zyx780r, zyh1873), 3, 420)
noncomputable def zbzyx780c25 : Bool := zchkX [] zprog2 (zovW []) 100000 k2X3_reckonDownTo [zyx780q24] [zyx780q25] [zyx780q25]
noncomputable def zyx780q26 : zPw := ((0, ([(0, .inr (.inr (.inl 83))), (1, .inl ((.ofNat 1, .ofNat 3), some (1, .ofNat 0)))], [], zyh1900, 0, 0), [], .ofNat 53), (zyx780r, zyh1873), 3, 420)
noncomputable def zbzyx780c26 : Bool := zchkX [] zprog2 (zovW []) 100000 k2X3_reckonDownTo [zyx780q25] [zyx780q26] [zyx780q26]
noncomputable def zyx780q27 : zPw := ((0, ([(0, .inr (.inr (.inl 83))), (1, .inl ((.ofNat 1, .ofNat 3), some (1, .ofNat 0)))], [], zyh1901, 0, 0), [], .ofNat 55), (zyx780r, zyh1873), 3, 420)
noncomputable def zbzyx780c27 : Bool := zchkX [] zprog2 (zovW []) 100000 k2X3_reckonDownTo [zyx780q26] [zyx780q27] [zyx780q27]
noncomputable def zyx780q28 : zPw := ((0, ([(0, .inr (.inr (.inl 83))), (1, .inl ((.ofNat 1, .ofNat 3), some (1, .ofNat 0)))], [], zyh1902, 0, 0), [], .ofNat 57), (zyx780r, zyh1873), 3, 420)
noncomputable def zbzyx780c28 : Bool := zchkX [] zprog2 (zovW []) 100000 k2X3_reckonDownTo [zyx780q27] [zyx780q28] [zyx780q28]
noncomputable def zyx780q29 : zPw := ((0, ([(0, .inr (.inr (.inl 83))), (1, .inl ((.ofNat 1, .ofNat 3), some (1, .ofNat 0)))], [], zyh1903, 0, 0), [], .ofNat 59), (zyx780r, zyh1873), 3, 420)
noncomputable def zbzyx780c29 : Bool := zchkX [] zprog2 (zovW []) 100000 k2X3_reckonDownTo [zyx780q28] [zyx780q29] [zyx780q29]
noncomputable def zyx780q30 : zPw := ((0, ([(0, .inr (.inr (.inl 83))), (1, .inl ((.ofNat 1, .ofNat 3), some (1, .ofNat 0)))], [], zyh1904, 0, 0), [], .ofNat 61), (zyx780r, zyh1873), 3, 420)
noncomputable def zbzyx780c30 : Bool := zchkX [] zprog2 (zovW []) 100000 k2X3_reckonDownTo [zyx780q29] [zyx780q30] [zyx780q30]
noncomputable def zyx780q31 : zPw := ((0, ([(0, .inr (.inr (.inl 83))), (1, .inl ((.ofNat 1, .ofNat 3), some (1, .ofNat 0)))], [], zyh1905, 0, 0), [], .ofNat 63), (zyx780r, zyh1873), 3, 420)
noncomputable def zbzyx780c31 : Bool := zchkX [] zprog2 (zovW []) 100000 k2X3_reckonDownTo [zyx780q30] [zyx780q31] [zyx780q31]
noncomputable def zyx780q32 : zPw := ((0, ([(0, .inr (.inr (.inl 83))), (1, .inl ((.ofNat 1, .ofNat 3), some (1, .ofNat 0)))], [], zyh1906, 0, 0), [], .ofNat 65), (zyx780r, zyh1873), 3, 420)
noncomputable def zbzyx780c32 : Bool := zchkX [] zprog2 (zovW []) 100000 k2X3_reckonDownTo [zyx780q31] [zyx780q32] [zyx780q32]
noncomputable def zyx780q33 : zPw := ((0, ([(0, .inr (.inr (.inl 83))), (1, .inl ((.ofNat 1, .ofNat 3), some (1, .ofNat 0)))], [], zyh1907, 0, 0), [], .ofNat 67), (zyx780r, zyh1873), 3, 420)
noncomputable def zbzyx780c33 : Bool := zchkX [] zprog2 (zovW []) 100000 k2X3_reckonDownTo [zyx780q32] [zyx780q33] [zyx780q33]
noncomputable def zyx780q34 : zPw := ((0, ([(0, .inr (.inr (.inl 83))), (1, .inl ((.ofNat 1, .ofNat 3), some (1, .ofNat 0)))], [], zyh1908, 0, 0), [], .ofNat 69), (zyx780r, zyh1873), 3, 420)
noncomputable def zbzyx780c34 : Bool := zchkX [] zprog2 (zovW []) 100000 k2X3_reckonDownTo [zyx780q33] [zyx780q34] [zyx780q34]
noncomputable def zyx780q35 : zPw := ((0, ([(0, .inr (.inr (.inl 83))), (1, .inl ((.ofNat 1, .ofNat 3), some (1, .ofNat 0)))], [], zyh1909, 0, 0), [], .ofNat 71), (zyx780r, zyh1873), 3, 420)
noncomputable def zbzyx780c35 : Bool := zchkX [] zprog2 (zovW []) 100000 k2X3_reckonDownTo [zyx780q34] [zyx780q35] [zyx780q35]
noncomputable def zyx780q36 : zPw := ((0, ([(0, .inr (.inr (.inl 83))), (1, .inl ((.ofNat 1, .ofNat 3), some (1, .ofNat 0)))], [], zyh1910, 0, 0), [], .ofNat 73), (zyx780r, zyh1873), 3, 420)
noncomputable def zbzyx780c36 : Bool := zchkX [] zprog2 (zovW []) 100000 k2X3_reckonDownTo [zyx780q35] [zyx780q36] [zyx780q36]
noncomputable def zyx780q37 : zPw := ((0, ([(0, .inr (.inr (.inl 83))), (1, .inl ((.ofNat 1, .ofNat 3), some (1, .ofNat 0)))], [], zyh1911, 0, 0), [], .ofNat 75), (zyx780r, zyh1873), 3, 420)
noncomputable def zbzyx780c37 : Bool := zchkX [] zprog2 (zovW []) 100000 k2X3_reckonDownTo [zyx780q36] [zyx780q37] [zyx780q37]
noncomputable def zyx780q38 : zPw := ((0, ([(0, .inr (.inr (.inl 83))), (1, .inl ((.ofNat 1, .ofNat 3), some (1, .ofNat 0)))], [], zyh1912, 0, 0), [], .ofNat 77), (zyx780r, zyh1873), 3, 420)
noncomputable def zbzyx780c38 : Bool := zchkX [] zprog2 (zovW []) 100000 k2X3_reckonDownTo [zyx780q37] [zyx780q38] [zyx780q38]
noncomputable def zyx780q39 : zPw := ((0, ([(0, .inr (.inr (.inl 83))), (1, .inl ((.ofNat 1, .ofNat 3), some (1, .ofNat 0)))], [], zyh1913, 0, 0), [], .ofNat 79), (zyx780r, zyh1873), 3, 420)
noncomputable def zbzyx780c39 : Bool := zchkX [] zprog2 (zovW []) 100000 k2X3_reckonDownTo [zyx780q38] [zyx780q39] [zyx780q39]
noncomputable def zyx780d : zKw := (54, 2, 3, 420, zyx780a, zyh0, [(zyx780r, zyh1873)])
noncomputable def zbzyx780e : Bool := zrunw zprog2 (zovW []) 100000 (zcutW [] none ((zyx780r, zyh1873), 3, 420) [zyx780q39]) 3 420 k2X3_reckonDownTo (zkin zyx780r zyh1873) 0 (zargs 0 zyx780a, [], (zyh0.1, zyh0.2.1, 0), 0, 0)
noncomputable def zyg41 : List Bool := [zbzyx780c0, zbzyx780c1, zbzyx780c2, zbzyx780c3, zbzyx780c4, zbzyx780c5, zbzyx780c6, zbzyx780c7, zbzyx780c8, zbzyx780c9, zbzyx780c10, zbzyx780c11, zbzyx780c12, zbzyx780c13, zbzyx780c14, zbzyx780c15, zbzyx780c16, zbzyx780c17, zbzyx780c18, zbzyx780c19, zbzyx780c20, zbzyx780c21, zbzyx780c22, zbzyx780c23, zbzyx780c24, zbzyx780c25, zbzyx780c26, zbzyx780c27, zbzyx780c28, zbzyx780c29, zbzyx780c30, zbzyx780c31, zbzyx780c32, zbzyx780c33, zbzyx780c34, zbzyx780c35, zbzyx780c36, zbzyx780c37, zbzyx780c38, zbzyx780c39, zbzyx780e]
set_option maxRecDepth 100000 in
theorem zyg41_ok : zall (fun b => b) zyg41 = true := by decide +kernel
theorem zyx780c0 : zchkX [] zprog2 (zovW []) 100000 k2X3_reckonDownTo [] [zyx780q0] [zyx780q0] = true := zall_ok zyg41_ok (k := 0) (a := zbzyx780c0) rfl
theorem zyx780_k0 {l : Launch} {D : va_G} {tys : List (ClassId × FieldType)} {o : zO} {z : Nat} (E : zEnv tys) : zPtOk l D vwCl tys o z (zXX o z) zTs m2X3_reckonDownTo zyx780q0 := zkn_pt E (fun g => fun _ h => absurd h List.not_mem_nil) (show zget zprog2 54 = some m2X3_reckonDownTo from rfl) (fun _ h => absurd h List.not_mem_nil) zyx780c0 _ (List.mem_of_getElem? (i := 0) rfl)
theorem zyx780c1 : zchkX [] zprog2 (zovW []) 100000 k2X3_reckonDownTo [zyx780q0] [zyx780q1] [zyx780q1] = true := zall_ok zyg41_ok (k := 1) (a := zbzyx780c1) rfl
theorem zyx780_k1 {l : Launch} {D : va_G} {tys : List (ClassId × FieldType)} {o : zO} {z : Nat} (E : zEnv tys) : zPtOk l D vwCl tys o z (zXX o z) zTs m2X3_reckonDownTo zyx780q1 := zkn_pt E (fun g => fun _ h => absurd h List.not_mem_nil) (show zget zprog2 54 = some m2X3_reckonDownTo from rfl) (List.forall_mem_cons.mpr ⟨zyx780_k0 E, fun _ h => absurd h List.not_mem_nil⟩) zyx780c1 _ (List.mem_of_getElem? (i := 0) rfl)
theorem zyx780c2 : zchkX [] zprog2 (zovW []) 100000 k2X3_reckonDownTo [zyx780q1] [zyx780q2] [zyx780q2] = true := zall_ok zyg41_ok (k := 2) (a := zbzyx780c2) rfl
theorem zyx780_k2 {l : Launch} {D : va_G} {tys : List (ClassId × FieldType)} {o : zO} {z : Nat} (E : zEnv tys) : zPtOk l D vwCl tys o z (zXX o z) zTs m2X3_reckonDownTo zyx780q2 := zkn_pt E (fun g => fun _ h => absurd h List.not_mem_nil) (show zget zprog2 54 = some m2X3_reckonDownTo from rfl) (List.forall_mem_cons.mpr ⟨zyx780_k1 E, fun _ h => absurd h List.not_mem_nil⟩) zyx780c2 _ (List.mem_of_getElem? (i := 0) rfl)
theorem zyx780c3 : zchkX [] zprog2 (zovW []) 100000 k2X3_reckonDownTo [zyx780q2] [zyx780q3] [zyx780q3] = true := zall_ok zyg41_ok (k := 3) (a := zbzyx780c3) rfl
theorem zyx780_k3 {l : Launch} {D : va_G} {tys : List (ClassId × FieldType)} {o : zO} {z : Nat} (E : zEnv tys) : zPtOk l D vwCl tys o z (zXX o z) zTs m2X3_reckonDownTo zyx780q3 := zkn_pt E (fun g => fun _ h => absurd h List.not_mem_nil) (show zget zprog2 54 = some m2X3_reckonDownTo from rfl) (List.forall_mem_cons.mpr ⟨zyx780_k2 E, fun _ h => absurd h List.not_mem_nil⟩) zyx780c3 _ (List.mem_of_getElem? (i := 0) rfl)
theorem zyx780c4 : zchkX [] zprog2 (zovW []) 100000 k2X3_reckonDownTo [zyx780q3] [zyx780q4] [zyx780q4] = true := zall_ok zyg41_ok (k := 4) (a := zbzyx780c4) rfl
theorem zyx780_k4 {l : Launch} {D : va_G} {tys : List (ClassId × FieldType)} {o : zO} {z : Nat} (E : zEnv tys) : zPtOk l D vwCl tys o z (zXX o z) zTs m2X3_reckonDownTo zyx780q4 := zkn_pt E (fun g => fun _ h => absurd h List.not_mem_nil) (show zget zprog2 54 = some m2X3_reckonDownTo from rfl) (List.forall_mem_cons.mpr ⟨zyx780_k3 E, fun _ h => absurd h List.not_mem_nil⟩) zyx780c4 _ (List.mem_of_getElem? (i := 0) rfl)
theorem zyx780c5 : zchkX [] zprog2 (zovW []) 100000 k2X3_reckonDownTo [zyx780q4] [zyx780q5] [zyx780q5] = true := zall_ok zyg41_ok (k := 5) (a := zbzyx780c5) rfl
theorem zyx780_k5 {l : Launch} {D : va_G} {tys : List (ClassId × FieldType)} {o : zO} {z : Nat} (E : zEnv tys) : zPtOk l D vwCl tys o z (zXX o z) zTs m2X3_reckonDownTo zyx780q5 := zkn_pt E (fun g => fun _ h => absurd h List.not_mem_nil) (show zget zprog2 54 = some m2X3_reckonDownTo from rfl) (List.forall_mem_cons.mpr ⟨zyx780_k4 E, fun _ h => absurd h List.not_mem_nil⟩) zyx780c5 _ (List.mem_of_getElem? (i := 0) rfl)
theorem zyx780c6 : zchkX [] zprog2 (zovW []) 100000 k2X3_reckonDownTo [zyx780q5] [zyx780q6] [zyx780q6] = true := zall_ok zyg41_ok (k := 6) (a := zbzyx780c6) rfl
theorem zyx780_k6 {l : Launch} {D : va_G} {tys : List (ClassId × FieldType)} {o : zO} {z : Nat} (E : zEnv tys) : zPtOk l D vwCl tys o z (zXX o z) zTs m2X3_reckonDownTo zyx780q6 := zkn_pt E (fun g => fun _ h => absurd h List.not_mem_nil) (show zget zprog2 54 = some m2X3_reckonDownTo from rfl) (List.forall_mem_cons.mpr ⟨zyx780_k5 E, fun _ h => absurd h List.not_mem_nil⟩) zyx780c6 _ (List.mem_of_getElem? (i := 0) rfl)
theorem zyx780c7 : zchkX [] zprog2 (zovW []) 100000 k2X3_reckonDownTo [zyx780q6] [zyx780q7] [zyx780q7] = true := zall_ok zyg41_ok (k := 7) (a := zbzyx780c7) rfl
theorem zyx780_k7 {l : Launch} {D : va_G} {tys : List (ClassId × FieldType)} {o : zO} {z : Nat} (E : zEnv tys) : zPtOk l D vwCl tys o z (zXX o z) zTs m2X3_reckonDownTo zyx780q7 := zkn_pt E (fun g => fun _ h => absurd h List.not_mem_nil) (show zget zprog2 54 = some m2X3_reckonDownTo from rfl) (List.forall_mem_cons.mpr ⟨zyx780_k6 E, fun _ h => absurd h List.not_mem_nil⟩) zyx780c7 _ (List.mem_of_getElem? (i := 0) rfl)
theorem zyx780c8 : zchkX [] zprog2 (zovW []) 100000 k2X3_reckonDownTo [zyx780q7] [zyx780q8] [zyx780q8] = true := zall_ok zyg41_ok (k := 8) (a := zbzyx780c8) rfl
theorem zyx780_k8 {l : Launch} {D : va_G} {tys : List (ClassId × FieldType)} {o : zO} {z : Nat} (E : zEnv tys) : zPtOk l D vwCl tys o z (zXX o z) zTs m2X3_reckonDownTo zyx780q8 := zkn_pt E (fun g => fun _ h => absurd h List.not_mem_nil) (show zget zprog2 54 = some m2X3_reckonDownTo from rfl) (List.forall_mem_cons.mpr ⟨zyx780_k7 E, fun _ h => absurd h List.not_mem_nil⟩) zyx780c8 _ (List.mem_of_getElem? (i := 0) rfl)
theorem zyx780c9 : zchkX [] zprog2 (zovW []) 100000 k2X3_reckonDownTo [zyx780q8] [zyx780q9] [zyx780q9] = true := zall_ok zyg41_ok (k := 9) (a := zbzyx780c9) rfl
theorem zyx780_k9 {l : Launch} {D : va_G} {tys : List (ClassId × FieldType)} {o : zO} {z : Nat} (E : zEnv tys) : zPtOk l D vwCl tys o z (zXX o z) zTs m2X3_reckonDownTo zyx780q9 := zkn_pt E (fun g => fun _ h => absurd h List.not_mem_nil) (show zget zprog2 54 = some m2X3_reckonDownTo from rfl) (List.forall_mem_cons.mpr ⟨zyx780_k8 E, fun _ h => absurd h List.not_mem_nil⟩) zyx780c9 _ (List.mem_of_getElem? (i := 0) rfl)
theorem zyx780c10 : zchkX [] zprog2 (zovW []) 100000 k2X3_reckonDownTo [zyx780q9] [zyx780q10] [zyx780q10] = true := zall_ok zyg41_ok (k := 10) (a := zbzyx780c10) rfl
theorem zyx780_k10 {l : Launch} {D : va_G} {tys : List (ClassId × FieldType)} {o : zO} {z : Nat} (E : zEnv tys) : zPtOk l D vwCl tys o z (zXX o z) zTs m2X3_reckonDownTo zyx780q10 := zkn_pt E (fun g => fun _ h => absurd h List.not_mem_nil) (show zget zprog2 54 = some m2X3_reckonDownTo from rfl) (List.forall_mem_cons.mpr ⟨zyx780_k9 E, fun _ h => absurd h List.not_mem_nil⟩) zyx780c10 _ (List.mem_of_getElem? (i := 0) rfl)
theorem zyx780c11 : zchkX [] zprog2 (zovW []) 100000 k2X3_reckonDownTo [zyx780q10] [zyx780q11] [zyx780q11] = true := zall_ok zyg41_ok (k := 11) (a := zbzyx780c11) rfl
theorem zyx780_k11 {l : Launch} {D : va_G} {tys : List (ClassId × FieldType)} {o : zO} {z : Nat} (E : zEnv tys) : zPtOk l D vwCl tys o z (zXX o z) zTs m2X3_reckonDownTo zyx780q11 := zkn_pt E (fun g => fun _ h => absurd h List.not_mem_nil) (show zget zprog2 54 = some m2X3_reckonDownTo from rfl) (List.forall_mem_cons.mpr ⟨zyx780_k10 E, fun _ h => absurd h List.not_mem_nil⟩) zyx780c11 _ (List.mem_of_getElem? (i := 0) rfl)
theorem zyx780c12 : zchkX [] zprog2 (zovW []) 100000 k2X3_reckonDownTo [zyx780q11] [zyx780q12] [zyx780q12] = true := zall_ok zyg41_ok (k := 12) (a := zbzyx780c12) rfl
theorem zyx780_k12 {l : Launch} {D : va_G} {tys : List (ClassId × FieldType)} {o : zO} {z : Nat} (E : zEnv tys) : zPtOk l D vwCl tys o z (zXX o z) zTs m2X3_reckonDownTo zyx780q12 := zkn_pt E (fun g => fun _ h => absurd h List.not_mem_nil) (show zget zprog2 54 = some m2X3_reckonDownTo from rfl) (List.forall_mem_cons.mpr ⟨zyx780_k11 E, fun _ h => absurd h List.not_mem_nil⟩) zyx780c12 _ (List.mem_of_getElem? (i := 0) rfl)
theorem zyx780c13 : zchkX [] zprog2 (zovW []) 100000 k2X3_reckonDownTo [zyx780q12] [zyx780q13] [zyx780q13] = true := zall_ok zyg41_ok (k := 13) (a := zbzyx780c13) rfl
theorem zyx780_k13 {l : Launch} {D : va_G} {tys : List (ClassId × FieldType)} {o : zO} {z : Nat} (E : zEnv tys) : zPtOk l D vwCl tys o z (zXX o z) zTs m2X3_reckonDownTo zyx780q13 := zkn_pt E (fun g => fun _ h => absurd h List.not_mem_nil) (show zget zprog2 54 = some m2X3_reckonDownTo from rfl) (List.forall_mem_cons.mpr ⟨zyx780_k12 E, fun _ h => absurd h List.not_mem_nil⟩) zyx780c13 _ (List.mem_of_getElem? (i := 0) rfl)
theorem zyx780c14 : zchkX [] zprog2 (zovW []) 100000 k2X3_reckonDownTo [zyx780q13] [zyx780q14] [zyx780q14] = true := zall_ok zyg41_ok (k := 14) (a := zbzyx780c14) rfl
theorem zyx780_k14 {l : Launch} {D : va_G} {tys : List (ClassId × FieldType)} {o : zO} {z : Nat} (E : zEnv tys) : zPtOk l D vwCl tys o z (zXX o z) zTs m2X3_reckonDownTo zyx780q14 := zkn_pt E (fun g => fun _ h => absurd h List.not_mem_nil) (show zget zprog2 54 = some m2X3_reckonDownTo from rfl) (List.forall_mem_cons.mpr ⟨zyx780_k13 E, fun _ h => absurd h List.not_mem_nil⟩) zyx780c14 _ (List.mem_of_getElem? (i := 0) rfl)
theorem zyx780c15 : zchkX [] zprog2 (zovW []) 100000 k2X3_reckonDownTo [zyx780q14] [zyx780q15] [zyx780q15] = true := zall_ok zyg41_ok (k := 15) (a := zbzyx780c15) rfl
theorem zyx780_k15 {l : Launch} {D : va_G} {tys : List (ClassId × FieldType)} {o : zO} {z : Nat} (E : zEnv tys) : zPtOk l D vwCl tys o z (zXX o z) zTs m2X3_reckonDownTo zyx780q15 := zkn_pt E (fun g => fun _ h => absurd h List.not_mem_nil) (show zget zprog2 54 = some m2X3_reckonDownTo from rfl) (List.forall_mem_cons.mpr ⟨zyx780_k14 E, fun _ h => absurd h List.not_mem_nil⟩) zyx780c15 _ (List.mem_of_getElem? (i := 0) rfl)
theorem zyx780c16 : zchkX [] zprog2 (zovW []) 100000 k2X3_reckonDownTo [zyx780q15] [zyx780q16] [zyx780q16] = true := zall_ok zyg41_ok (k := 16) (a := zbzyx780c16) rfl
theorem zyx780_k16 {l : Launch} {D : va_G} {tys : List (ClassId × FieldType)} {o : zO} {z : Nat} (E : zEnv tys) : zPtOk l D vwCl tys o z (zXX o z) zTs m2X3_reckonDownTo zyx780q16 := zkn_pt E (fun g => fun _ h => absurd h List.not_mem_nil) (show zget zprog2 54 = some m2X3_reckonDownTo from rfl) (List.forall_mem_cons.mpr ⟨zyx780_k15 E, fun _ h => absurd h List.not_mem_nil⟩) zyx780c16 _ (List.mem_of_getElem? (i := 0) rfl)
theorem zyx780c17 : zchkX [] zprog2 (zovW []) 100000 k2X3_reckonDownTo [zyx780q16] [zyx780q17] [zyx780q17] = true := zall_ok zyg41_ok (k := 17) (a := zbzyx780c17) rfl
theorem zyx780_k17 {l : Launch} {D : va_G} {tys : List (ClassId × FieldType)} {o : zO} {z : Nat} (E : zEnv tys) : zPtOk l D vwCl tys o z (zXX o z) zTs m2X3_reckonDownTo zyx780q17 := zkn_pt E (fun g => fun _ h => absurd h List.not_mem_nil) (show zget zprog2 54 = some m2X3_reckonDownTo from rfl) (List.forall_mem_cons.mpr ⟨zyx780_k16 E, fun _ h => absurd h List.not_mem_nil⟩) zyx780c17 _ (List.mem_of_getElem? (i := 0) rfl)
theorem zyx780c18 : zchkX [] zprog2 (zovW []) 100000 k2X3_reckonDownTo [zyx780q17] [zyx780q18] [zyx780q18] = true := zall_ok zyg41_ok (k := 18) (a := zbzyx780c18) rfl
theorem zyx780_k18 {l : Launch} {D : va_G} {tys : List (ClassId × FieldType)} {o : zO} {z : Nat} (E : zEnv tys) : zPtOk l D vwCl tys o z (zXX o z) zTs m2X3_reckonDownTo zyx780q18 := zkn_pt E (fun g => fun _ h => absurd h List.not_mem_nil) (show zget zprog2 54 = some m2X3_reckonDownTo from rfl) (List.forall_mem_cons.mpr ⟨zyx780_k17 E, fun _ h => absurd h List.not_mem_nil⟩) zyx780c18 _ (List.mem_of_getElem? (i := 0) rfl)
theorem zyx780c19 : zchkX [] zprog2 (zovW []) 100000 k2X3_reckonDownTo [zyx780q18] [zyx780q19] [zyx780q19] = true := zall_ok zyg41_ok (k := 19) (a := zbzyx780c19) rfl
theorem zyx780_k19 {l : Launch} {D : va_G} {tys : List (ClassId × FieldType)} {o : zO} {z : Nat} (E : zEnv tys) : zPtOk l D vwCl tys o z (zXX o z) zTs m2X3_reckonDownTo zyx780q19 := zkn_pt E (fun g => fun _ h => absurd h List.not_mem_nil) (show zget zprog2 54 = some m2X3_reckonDownTo from rfl) (List.forall_mem_cons.mpr ⟨zyx780_k18 E, fun _ h => absurd h List.not_mem_nil⟩) zyx780c19 _ (List.mem_of_getElem? (i := 0) rfl)
theorem zyx780c20 : zchkX [] zprog2 (zovW []) 100000 k2X3_reckonDownTo [zyx780q19] [zyx780q20] [zyx780q20] = true := zall_ok zyg41_ok (k := 20) (a := zbzyx780c20) rfl
theorem zyx780_k20 {l : Launch} {D : va_G} {tys : List (ClassId × FieldType)} {o : zO} {z : Nat} (E : zEnv tys) : zPtOk l D vwCl tys o z (zXX o z) zTs m2X3_reckonDownTo zyx780q20 := zkn_pt E (fun g => fun _ h => absurd h List.not_mem_nil) (show zget zprog2 54 = some m2X3_reckonDownTo from rfl) (List.forall_mem_cons.mpr ⟨zyx780_k19 E, fun _ h => absurd h List.not_mem_nil⟩) zyx780c20 _ (List.mem_of_getElem? (i := 0) rfl)
theorem zyx780c21 : zchkX [] zprog2 (zovW []) 100000 k2X3_reckonDownTo [zyx780q20] [zyx780q21] [zyx780q21] = true := zall_ok zyg41_ok (k := 21) (a := zbzyx780c21) rfl
theorem zyx780_k21 {l : Launch} {D : va_G} {tys : List (ClassId × FieldType)} {o : zO} {z : Nat} (E : zEnv tys) : zPtOk l D vwCl tys o z (zXX o z) zTs m2X3_reckonDownTo zyx780q21 := zkn_pt E (fun g => fun _ h => absurd h List.not_mem_nil) (show zget zprog2 54 = some m2X3_reckonDownTo from rfl) (List.forall_mem_cons.mpr ⟨zyx780_k20 E, fun _ h => absurd h List.not_mem_nil⟩) zyx780c21 _ (List.mem_of_getElem? (i := 0) rfl)
theorem zyx780c22 : zchkX [] zprog2 (zovW []) 100000 k2X3_reckonDownTo [zyx780q21] [zyx780q22] [zyx780q22] = true := zall_ok zyg41_ok (k := 22) (a := zbzyx780c22) rfl
theorem zyx780_k22 {l : Launch} {D : va_G} {tys : List (ClassId × FieldType)} {o : zO} {z : Nat} (E : zEnv tys) : zPtOk l D vwCl tys o z (zXX o z) zTs m2X3_reckonDownTo zyx780q22 := zkn_pt E (fun g => fun _ h => absurd h List.not_mem_nil) (show zget zprog2 54 = some m2X3_reckonDownTo from rfl) (List.forall_mem_cons.mpr ⟨zyx780_k21 E, fun _ h => absurd h List.not_mem_nil⟩) zyx780c22 _ (List.mem_of_getElem? (i := 0) rfl)
theorem zyx780c23 : zchkX [] zprog2 (zovW []) 100000 k2X3_reckonDownTo [zyx780q22] [zyx780q23] [zyx780q23] = true := zall_ok zyg41_ok (k := 23) (a := zbzyx780c23) rfl
theorem zyx780_k23 {l : Launch} {D : va_G} {tys : List (ClassId × FieldType)} {o : zO} {z : Nat} (E : zEnv tys) : zPtOk l D vwCl tys o z (zXX o z) zTs m2X3_reckonDownTo zyx780q23 := zkn_pt E (fun g => fun _ h => absurd h List.not_mem_nil) (show zget zprog2 54 = some m2X3_reckonDownTo from rfl) (List.forall_mem_cons.mpr ⟨zyx780_k22 E, fun _ h => absurd h List.not_mem_nil⟩) zyx780c23 _ (List.mem_of_getElem? (i := 0) rfl)
theorem zyx780c24 : zchkX [] zprog2 (zovW []) 100000 k2X3_reckonDownTo [zyx780q23] [zyx780q24] [zyx780q24] = true := zall_ok zyg41_ok (k := 24) (a := zbzyx780c24) rfl
theorem zyx780_k24 {l : Launch} {D : va_G} {tys : List (ClassId × FieldType)} {o : zO} {z : Nat} (E : zEnv tys) : zPtOk l D vwCl tys o z (zXX o z) zTs m2X3_reckonDownTo zyx780q24 := zkn_pt E (fun g => fun _ h => absurd h List.not_mem_nil) (show zget zprog2 54 = some m2X3_reckonDownTo from rfl) (List.forall_mem_cons.mpr ⟨zyx780_k23 E, fun _ h => absurd h List.not_mem_nil⟩) zyx780c24 _ (List.mem_of_getElem? (i := 0) rfl)
theorem zyx780c25 : zchkX [] zprog2 (zovW []) 100000 k2X3_reckonDownTo [zyx780q24] [zyx780q25] [zyx780q25] = true := zall_ok zyg41_ok (k := 25) (a := zbzyx780c25) rfl
theorem zyx780_k25 {l : Launch} {D : va_G} {tys : List (ClassId × FieldType)} {o : zO} {z : Nat} (E : zEnv tys) : zPtOk l D vwCl tys o z (zXX o z) zTs m2X3_reckonDownTo zyx780q25 := zkn_pt E (fun g => fun _ h => absurd h List.not_mem_nil) (show zget zprog2 54 = some m2X3_reckonDownTo from rfl) (List.forall_mem_cons.mpr ⟨zyx780_k24 E, fun _ h => absurd h List.not_mem_nil⟩) zyx780c25 _ (List.mem_of_getElem? (i := 0) rfl)
theorem zyx780c26 : zchkX [] zprog2 (zovW []) 100000 k2X3_reckonDownTo [zyx780q25] [zyx780q26] [zyx780q26] = true := zall_ok zyg41_ok (k := 26) (a := zbzyx780c26) rfl
theorem zyx780_k26 {l : Launch} {D : va_G} {tys : List (ClassId × FieldType)} {o : zO} {z : Nat} (E : zEnv tys) : zPtOk l D vwCl tys o z (zXX o z) zTs m2X3_reckonDownTo zyx780q26 := zkn_pt E (fun g => fun _ h => absurd h List.not_mem_nil) (show zget zprog2 54 = some m2X3_reckonDownTo from rfl) (List.forall_mem_cons.mpr ⟨zyx780_k25 E, fun _ h => absurd h List.not_mem_nil⟩) zyx780c26 _ (List.mem_of_getElem? (i := 0) rfl)
theorem zyx780c27 : zchkX [] zprog2 (zovW []) 100000 k2X3_reckonDownTo [zyx780q26] [zyx780q27] [zyx780q27] = true := zall_ok zyg41_ok (k := 27) (a := zbzyx780c27) rfl
theorem zyx780_k27 {l : Launch} {D : va_G} {tys : List (ClassId × FieldType)} {o : zO} {z : Nat} (E : zEnv tys) : zPtOk l D vwCl tys o z (zXX o z) zTs m2X3_reckonDownTo zyx780q27 := zkn_pt E (fun g => fun _ h => absurd h List.not_mem_nil) (show zget zprog2 54 = some m2X3_reckonDownTo from rfl) (List.forall_mem_cons.mpr ⟨zyx780_k26 E, fun _ h => absurd h List.not_mem_nil⟩) zyx780c27 _ (List.mem_of_getElem? (i := 0) rfl)
theorem zyx780c28 : zchkX [] zprog2 (zovW []) 100000 k2X3_reckonDownTo [zyx780q27] [zyx780q28] [zyx780q28] = true := zall_ok zyg41_ok (k := 28) (a := zbzyx780c28) rfl
theorem zyx780_k28 {l : Launch} {D : va_G} {tys : List (ClassId × FieldType)} {o : zO} {z : Nat} (E : zEnv tys) : zPtOk l D vwCl tys o z (zXX o z) zTs m2X3_reckonDownTo zyx780q28 := zkn_pt E (fun g => fun _ h => absurd h List.not_mem_nil) (show zget zprog2 54 = some m2X3_reckonDownTo from rfl) (List.forall_mem_cons.mpr ⟨zyx780_k27 E, fun _ h => absurd h List.not_mem_nil⟩) zyx780c28 _ (List.mem_of_getElem? (i := 0) rfl)
theorem zyx780c29 : zchkX [] zprog2 (zovW []) 100000 k2X3_reckonDownTo [zyx780q28] [zyx780q29] [zyx780q29] = true := zall_ok zyg41_ok (k := 29) (a := zbzyx780c29) rfl
theorem zyx780_k29 {l : Launch} {D : va_G} {tys : List (ClassId × FieldType)} {o : zO} {z : Nat} (E : zEnv tys) : zPtOk l D vwCl tys o z (zXX o z) zTs m2X3_reckonDownTo zyx780q29 := zkn_pt E (fun g => fun _ h => absurd h List.not_mem_nil) (show zget zprog2 54 = some m2X3_reckonDownTo from rfl) (List.forall_mem_cons.mpr ⟨zyx780_k28 E, fun _ h => absurd h List.not_mem_nil⟩) zyx780c29 _ (List.mem_of_getElem? (i := 0) rfl)
theorem zyx780c30 : zchkX [] zprog2 (zovW []) 100000 k2X3_reckonDownTo [zyx780q29] [zyx780q30] [zyx780q30] = true := zall_ok zyg41_ok (k := 30) (a := zbzyx780c30) rfl
theorem zyx780_k30 {l : Launch} {D : va_G} {tys : List (ClassId × FieldType)} {o : zO} {z : Nat} (E : zEnv tys) : zPtOk l D vwCl tys o z (zXX o z) zTs m2X3_reckonDownTo zyx780q30 := zkn_pt E (fun g => fun _ h => absurd h List.not_mem_nil) (show zget zprog2 54 = some m2X3_reckonDownTo from rfl) (List.forall_mem_cons.mpr ⟨zyx780_k29 E, fun _ h => absurd h List.not_mem_nil⟩) zyx780c30 _ (List.mem_of_getElem? (i := 0) rfl)
theorem zyx780c31 : zchkX [] zprog2 (zovW []) 100000 k2X3_reckonDownTo [zyx780q30] [zyx780q31] [zyx780q31] = true := zall_ok zyg41_ok (k := 31) (a := zbzyx780c31) rfl
theorem zyx780_k31 {l : Launch} {D : va_G} {tys : List (ClassId × FieldType)} {o : zO} {z : Nat} (E : zEnv tys) : zPtOk l D vwCl tys o z (zXX o z) zTs m2X3_reckonDownTo zyx780q31 := zkn_pt E (fun g => fun _ h => absurd h List.not_mem_nil) (show zget zprog2 54 = some m2X3_reckonDownTo from rfl) (List.forall_mem_cons.mpr ⟨zyx780_k30 E, fun _ h => absurd h List.not_mem_nil⟩) zyx780c31 _ (List.mem_of_getElem? (i := 0) rfl)
theorem zyx780c32 : zchkX [] zprog2 (zovW []) 100000 k2X3_reckonDownTo [zyx780q31] [zyx780q32] [zyx780q32] = true := zall_ok zyg41_ok (k := 32) (a := zbzyx780c32) rfl
theorem zyx780_k32 {l : Launch} {D : va_G} {tys : List (ClassId × FieldType)} {o : zO} {z : Nat} (E : zEnv tys) : zPtOk l D vwCl tys o z (zXX o z) zTs m2X3_reckonDownTo zyx780q32 := zkn_pt E (fun g => fun _ h => absurd h List.not_mem_nil) (show zget zprog2 54 = some m2X3_reckonDownTo from rfl) (List.forall_mem_cons.mpr ⟨zyx780_k31 E, fun _ h => absurd h List.not_mem_nil⟩) zyx780c32 _ (List.mem_of_getElem? (i := 0) rfl)
theorem zyx780c33 : zchkX [] zprog2 (zovW []) 100000 k2X3_reckonDownTo [zyx780q32] [zyx780q33] [zyx780q33] = true := zall_ok zyg41_ok (k := 33) (a := zbzyx780c33) rfl
theorem zyx780_k33 {l : Launch} {D : va_G} {tys : List (ClassId × FieldType)} {o : zO} {z : Nat} (E : zEnv tys) : zPtOk l D vwCl tys o z (zXX o z) zTs m2X3_reckonDownTo zyx780q33 := zkn_pt E (fun g => fun _ h => absurd h List.not_mem_nil) (show zget zprog2 54 = some m2X3_reckonDownTo from rfl) (List.forall_mem_cons.mpr ⟨zyx780_k32 E, fun _ h => absurd h List.not_mem_nil⟩) zyx780c33 _ (List.mem_of_getElem? (i := 0) rfl)
theorem zyx780c34 : zchkX [] zprog2 (zovW []) 100000 k2X3_reckonDownTo [zyx780q33] [zyx780q34] [zyx780q34] = true := zall_ok zyg41_ok (k := 34) (a := zbzyx780c34) rfl
theorem zyx780_k34 {l : Launch} {D : va_G} {tys : List (ClassId × FieldType)} {o : zO} {z : Nat} (E : zEnv tys) : zPtOk l D vwCl tys o z (zXX o z) zTs m2X3_reckonDownTo zyx780q34 := zkn_pt E (fun g => fun _ h => absurd h List.not_mem_nil) (show zget zprog2 54 = some m2X3_reckonDownTo from rfl) (List.forall_mem_cons.mpr ⟨zyx780_k33 E, fun _ h => absurd h List.not_mem_nil⟩) zyx780c34 _ (List.mem_of_getElem? (i := 0) rfl)
theorem zyx780c35 : zchkX [] zprog2 (zovW []) 100000 k2X3_reckonDownTo [zyx780q34] [zyx780q35] [zyx780q35] = true := zall_ok zyg41_ok (k := 35) (a := zbzyx780c35) rfl
theorem zyx780_k35 {l : Launch} {D : va_G} {tys : List (ClassId × FieldType)} {o : zO} {z : Nat} (E : zEnv tys) : zPtOk l D vwCl tys o z (zXX o z) zTs m2X3_reckonDownTo zyx780q35 := zkn_pt E (fun g => fun _ h => absurd h List.not_mem_nil) (show zget zprog2 54 = some m2X3_reckonDownTo from rfl) (List.forall_mem_cons.mpr ⟨zyx780_k34 E, fun _ h => absurd h List.not_mem_nil⟩) zyx780c35 _ (List.mem_of_getElem? (i := 0) rfl)
theorem zyx780c36 : zchkX [] zprog2 (zovW []) 100000 k2X3_reckonDownTo [zyx780q35] [zyx780q36] [zyx780q36] = true := zall_ok zyg41_ok (k := 36) (a := zbzyx780c36) rfl
theorem zyx780_k36 {l : Launch} {D : va_G} {tys : List (ClassId × FieldType)} {o : zO} {z : Nat} (E : zEnv tys) : zPtOk l D vwCl tys o z (zXX o z) zTs m2X3_reckonDownTo zyx780q36 := zkn_pt E (fun g => fun _ h => absurd h List.not_mem_nil) (show zget zprog2 54 = some m2X3_reckonDownTo from rfl) (List.forall_mem_cons.mpr ⟨zyx780_k35 E, fun _ h => absurd h List.not_mem_nil⟩) zyx780c36 _ (List.mem_of_getElem? (i := 0) rfl)
theorem zyx780c37 : zchkX [] zprog2 (zovW []) 100000 k2X3_reckonDownTo [zyx780q36] [zyx780q37] [zyx780q37] = true := zall_ok zyg41_ok (k := 37) (a := zbzyx780c37) rfl
theorem zyx780_k37 {l : Launch} {D : va_G} {tys : List (ClassId × FieldType)} {o : zO} {z : Nat} (E : zEnv tys) : zPtOk l D vwCl tys o z (zXX o z) zTs m2X3_reckonDownTo zyx780q37 := zkn_pt E (fun g => fun _ h => absurd h List.not_mem_nil) (show zget zprog2 54 = some m2X3_reckonDownTo from rfl) (List.forall_mem_cons.mpr ⟨zyx780_k36 E, fun _ h => absurd h List.not_mem_nil⟩) zyx780c37 _ (List.mem_of_getElem? (i := 0) rfl)
theorem zyx780c38 : zchkX [] zprog2 (zovW []) 100000 k2X3_reckonDownTo [zyx780q37] [zyx780q38] [zyx780q38] = true := zall_ok zyg41_ok (k := 38) (a := zbzyx780c38) rfl
theorem zyx780_k38 {l : Launch} {D : va_G} {tys : List (ClassId × FieldType)} {o : zO} {z : Nat} (E : zEnv tys) : zPtOk l D vwCl tys o z (zXX o z) zTs m2X3_reckonDownTo zyx780q38 := zkn_pt E (fun g => fun _ h => absurd h List.not_mem_nil) (show zget zprog2 54 = some m2X3_reckonDownTo from rfl) (List.forall_mem_cons.mpr ⟨zyx780_k37 E, fun _ h => absurd h List.not_mem_nil⟩) zyx780c38 _ (List.mem_of_getElem? (i := 0) rfl)
theorem zyx780c39 : zchkX [] zprog2 (zovW []) 100000 k2X3_reckonDownTo [zyx780q38] [zyx780q39] [zyx780q39] = true := zall_ok zyg41_ok (k := 39) (a := zbzyx780c39) rfl
theorem zyx780_k39 {l : Launch} {D : va_G} {tys : List (ClassId × FieldType)} {o : zO} {z : Nat} (E : zEnv tys) : zPtOk l D vwCl tys o z (zXX o z) zTs m2X3_reckonDownTo zyx780q39 := zkn_pt E (fun g => fun _ h => absurd h List.not_mem_nil) (show zget zprog2 54 = some m2X3_reckonDownTo from rfl) (List.forall_mem_cons.mpr ⟨zyx780_k38 E, fun _ h => absurd h List.not_mem_nil⟩) zyx780c39 _ (List.mem_of_getElem? (i := 0) rfl)
theorem zyx780e : zrunw zprog2 (zovW []) 100000 (zcutW [] none ((zyx780r, zyh1873), 3, 420) [zyx780q39]) 3 420 k2X3_reckonDownTo (zkin zyx780r zyh1873) 0 (zargs 0 zyx780a, [], (zyh0.1, zyh0.2.1, 0), 0, 0) = true := zall_ok zyg41_ok (k := 40) (a := zbzyx780e) rfl
theorem zyx780 {l : Launch} {D : va_G} {tys : List (ClassId × FieldType)} {o : zO} {z : Nat} (E : zEnv tys) : zKnW l D vwCl tys o z (zXX o z) zTs zprog2 zyx780d :=
  zkn_mk E (fun g => fun _ h => absurd h List.not_mem_nil) (show zget zprog2 54 = some m2X3_reckonDownTo from rfl) rfl (by decide) (by decide) (by decide) (by decide) (G := [zyx780q39]) (List.forall_mem_cons.mpr ⟨zyx780_k39 E, fun _ h => absurd h List.not_mem_nil⟩) zyx780e


section SAF
def bnd (c : Nat) : Option (Int × Int) := if c < 49920 then (if c < 31236 then (if c < 19456 then (if c < 13568 then (if c < 10496 then (if c < 8708 then (if c < 8197 then (if c < 8196 then (if c = 8195 then some (0, 65536) else none) else (if c = 8196 then some (0, 9) else none)) else (if c < 8210 then (if c = 8197 then some (0, 65536) else none) else (if c < 8707 then (if c = 8210 then some (0, 32) else none) else (if c = 8707 then some (0, 2048) else none)))) else (if c < 9731 then (if c < 9216 then (if c = 8708 then some (0, 2048) else none) else (if c < 9472 then (if c = 9216 then some ((-1000000000), 1000000000) else none) else (if c = 9472 then some ((-1000000000), 1000000000) else none))) else (if c < 9732 then (if c = 9731 then some (0, 2048) else none) else (if c < 10240 then (if c = 9732 then some (0, 2048) else none) else (if c = 10240 then some ((-1000000000), 1000000000) else none))))) else (if c < 11780 then (if c < 11264 then (if c < 10755 then (if c = 10496 then some ((-1000000000), 1000000000) else none) else (if c < 10756 then (if c = 10755 then some (0, 2048) else none) else (if c = 10756 then some (0, 2048) else none))) else (if c < 11520 then (if c = 11264 then some ((-1000000000), 1000000000) else none) else (if c < 11779 then (if c = 11520 then some ((-1000000000), 1000000000) else none) else (if c = 11779 then some (0, 2048) else none)))) else (if c < 12803 then (if c < 12288 then (if c = 11780 then some (0, 2048) else none) else (if c < 12544 then (if c = 12288 then some ((-1000000000), 1000000000) else none) else (if c = 12544 then some ((-1000000000), 1000000000) else none))) else (if c < 12804 then (if c = 12803 then some (0, 2048) else none) else (if c < 13312 then (if c = 12804 then some (0, 2048) else none) else (if c = 13312 then some ((-1000000000), 1000000000) else none)))))) else (if c < 16384 then (if c < 14851 then (if c < 13828 then (if c < 13827 then (if c = 13568 then some ((-1000000000), 1000000000) else none) else (if c = 13827 then some (0, 2048) else none)) else (if c < 14336 then (if c = 13828 then some (0, 2048) else none) else (if c < 14592 then (if c = 14336 then some ((-1000000000), 1000000000) else none) else (if c = 14592 then some ((-1000000000), 1000000000) else none)))) else (if c < 15616 then (if c < 14852 then (if c = 14851 then some (0, 2048) else none) else (if c < 15360 then (if c = 14852 then some (0, 2048) else none) else (if c = 15360 then some ((-1000000000), 1000000000) else none))) else (if c < 15875 then (if c = 15616 then some ((-1000000000), 1000000000) else none) else (if c < 15876 then (if c = 15875 then some (0, 2048) else none) else (if c = 15876 then some (0, 2048) else none))))) else (if c < 17923 then (if c < 16900 then (if c < 16640 then (if c = 16384 then some ((-1000000000), 1000000000) else none) else (if c < 16899 then (if c = 16640 then some ((-1000000000), 1000000000) else none) else (if c = 16899 then some (0, 2048) else none))) else (if c < 17408 then (if c = 16900 then some (0, 2048) else none) else (if c < 17664 then (if c = 17408 then some ((-1000000000), 1000000000) else none) else (if c = 17664 then some ((-1000000000), 1000000000) else none)))) else (if c < 18688 then (if c < 17924 then (if c = 17923 then some (0, 2048) else none) else (if c < 18432 then (if c = 17924 then some (0, 2048) else none) else (if c = 18432 then some ((-1000000000), 1000000000) else none))) else (if c < 18947 then (if c = 18688 then some ((-1000000000), 1000000000) else none) else (if c < 18948 then (if c = 18947 then some (0, 2048) else none) else (if c = 18948 then some (0, 2048) else none))))))) else (if c < 25092 then (if c < 22020 then (if c < 20736 then (if c < 19971 then (if c < 19712 then (if c = 19456 then some ((-1000000000), 1000000000) else none) else (if c = 19712 then some ((-1000000000), 1000000000) else none)) else (if c < 19972 then (if c = 19971 then some (0, 2048) else none) else (if c < 20480 then (if c = 19972 then some (0, 2048) else none) else (if c = 20480 then some ((-1000000000), 1000000000) else none)))) else (if c < 21504 then (if c < 20995 then (if c = 20736 then some ((-1000000000), 1000000000) else none) else (if c < 20996 then (if c = 20995 then some (0, 2048) else none) else (if c = 20996 then some (0, 2048) else none))) else (if c < 21760 then (if c = 21504 then some ((-1000000000), 1000000000) else none) else (if c < 22019 then (if c = 21760 then some ((-1000000000), 1000000000) else none) else (if c = 22019 then some (0, 2048) else none))))) else (if c < 23808 then (if c < 23043 then (if c < 22528 then (if c = 22020 then some (0, 2048) else none) else (if c < 22784 then (if c = 22528 then some ((-1000000000), 1000000000) else none) else (if c = 22784 then some ((-1000000000), 1000000000) else none))) else (if c < 23044 then (if c = 23043 then some (0, 2048) else none) else (if c < 23552 then (if c = 23044 then some (0, 2048) else none) else (if c = 23552 then some ((-1000000000), 1000000000) else none)))) else (if c < 24576 then (if c < 24067 then (if c = 23808 then some ((-1000000000), 1000000000) else none) else (if c < 24068 then (if c = 24067 then some (0, 2048) else none) else (if c = 24068 then some (0, 2048) else none))) else (if c < 24832 then (if c = 24576 then some ((-1000000000), 1000000000) else none) else (if c < 25091 then (if c = 24832 then some ((-1000000000), 1000000000) else none) else (if c = 25091 then some (0, 2048) else none)))))) else (if c < 28164 then (if c < 26880 then (if c < 26115 then (if c < 25600 then (if c = 25092 then some (0, 2048) else none) else (if c < 25856 then (if c = 25600 then some ((-1000000000), 1000000000) else none) else (if c = 25856 then some ((-1000000000), 1000000000) else none))) else (if c < 26116 then (if c = 26115 then some (0, 2048) else none) else (if c < 26624 then (if c = 26116 then some (0, 2048) else none) else (if c = 26624 then some ((-1000000000), 1000000000) else none)))) else (if c < 27648 then (if c < 27139 then (if c = 26880 then some ((-1000000000), 1000000000) else none) else (if c < 27140 then (if c = 27139 then some (0, 2048) else none) else (if c = 27140 then some (0, 2048) else none))) else (if c < 27904 then (if c = 27648 then some ((-1000000000), 1000000000) else none) else (if c < 28163 then (if c = 27904 then some ((-1000000000), 1000000000) else none) else (if c = 28163 then some (0, 2048) else none))))) else (if c < 29952 then (if c < 29187 then (if c < 28672 then (if c = 28164 then some (0, 2048) else none) else (if c < 28928 then (if c = 28672 then some ((-1000000000), 1000000000) else none) else (if c = 28928 then some ((-1000000000), 1000000000) else none))) else (if c < 29188 then (if c = 29187 then some (0, 2048) else none) else (if c < 29696 then (if c = 29188 then some (0, 2048) else none) else (if c = 29696 then some ((-1000000000), 1000000000) else none)))) else (if c < 30720 then (if c < 30211 then (if c = 29952 then some ((-1000000000), 1000000000) else none) else (if c < 30212 then (if c = 30211 then some (0, 2048) else none) else (if c = 30212 then some (0, 2048) else none))) else (if c < 30976 then (if c = 30720 then some ((-1000000000), 1000000000) else none) else (if c < 31235 then (if c = 30976 then some ((-1000000000), 1000000000) else none) else (if c = 31235 then some (0, 2048) else none)))))))) else (if c < 42758 then (if c < 37379 then (if c < 34307 then (if c < 32768 then (if c < 32000 then (if c < 31744 then (if c = 31236 then some (0, 2048) else none) else (if c = 31744 then some ((-1000000000), 1000000000) else none)) else (if c < 32259 then (if c = 32000 then some ((-1000000000), 1000000000) else none) else (if c < 32260 then (if c = 32259 then some (0, 2048) else none) else (if c = 32260 then some (0, 2048) else none)))) else (if c < 33284 then (if c < 33024 then (if c = 32768 then some ((-1000000000), 1000000000) else none) else (if c < 33283 then (if c = 33024 then some ((-1000000000), 1000000000) else none) else (if c = 33283 then some (0, 2048) else none))) else (if c < 33792 then (if c = 33284 then some (0, 2048) else none) else (if c < 34048 then (if c = 33792 then some ((-1000000000), 1000000000) else none) else (if c = 34048 then some ((-1000000000), 1000000000) else none))))) else (if c < 35840 then (if c < 35072 then (if c < 34308 then (if c = 34307 then some (0, 2048) else none) else (if c < 34816 then (if c = 34308 then some (0, 2048) else none) else (if c = 34816 then some ((-1000000000), 1000000000) else none))) else (if c < 35331 then (if c = 35072 then some ((-1000000000), 1000000000) else none) else (if c < 35332 then (if c = 35331 then some (0, 2048) else none) else (if c = 35332 then some (0, 2048) else none)))) else (if c < 36356 then (if c < 36096 then (if c = 35840 then some ((-1000000000), 1000000000) else none) else (if c < 36355 then (if c = 36096 then some ((-1000000000), 1000000000) else none) else (if c = 36355 then some (0, 2048) else none))) else (if c < 36864 then (if c = 36356 then some (0, 2048) else none) else (if c < 37120 then (if c = 36864 then some ((-1000000000), 1000000000) else none) else (if c = 37120 then some ((-1000000000), 1000000000) else none)))))) else (if c < 40451 then (if c < 38912 then (if c < 38144 then (if c < 37380 then (if c = 37379 then some (0, 2048) else none) else (if c < 37888 then (if c = 37380 then some (0, 2048) else none) else (if c = 37888 then some ((-1000000000), 1000000000) else none))) else (if c < 38403 then (if c = 38144 then some ((-1000000000), 1000000000) else none) else (if c < 38404 then (if c = 38403 then some (0, 2048) else none) else (if c = 38404 then some (0, 2048) else none)))) else (if c < 39428 then (if c < 39168 then (if c = 38912 then some ((-1000000000), 1000000000) else none) else (if c < 39427 then (if c = 39168 then some ((-1000000000), 1000000000) else none) else (if c = 39427 then some (0, 2048) else none))) else (if c < 39936 then (if c = 39428 then some (0, 2048) else none) else (if c < 40192 then (if c = 39936 then some ((-1000000000), 1000000000) else none) else (if c = 40192 then some ((-1000000000), 1000000000) else none))))) else (if c < 41984 then (if c < 41216 then (if c < 40452 then (if c = 40451 then some (0, 2048) else none) else (if c < 40960 then (if c = 40452 then some (0, 2048) else none) else (if c = 40960 then some ((-1000000000), 1000000000) else none))) else (if c < 41475 then (if c = 41216 then some ((-1000000000), 1000000000) else none) else (if c < 41476 then (if c = 41475 then some (0, 2048) else none) else (if c = 41476 then some (0, 2048) else none)))) else (if c < 42752 then (if c < 42240 then (if c = 41984 then some ((-1000000000), 1000000000) else none) else (if c < 42496 then (if c = 42240 then some ((-1000000000), 1000000000) else none) else (if c = 42496 then some ((-128), 127) else none))) else (if c < 42756 then (if c = 42752 then some (0, 3) else none) else (if c < 42757 then (if c = 42756 then some (34, 162) else none) else (if c = 42757 then some (0, 65536) else none))))))) else (if c < 45568 then (if c < 43527 then (if c < 43008 then (if c < 42761 then (if c < 42759 then (if c = 42758 then some (0, 65536) else none) else (if c = 42759 then some (0, 64) else none)) else (if c < 42762 then (if c = 42761 then some ((-9223372036854775808), 9223372036854775807) else none) else (if c < 42763 then (if c = 42762 then some (0, 8) else none) else (if c = 42763 then some (0, 65536) else none)))) else (if c < 43524 then (if c < 43264 then (if c = 43008 then some (0, 8) else none) else (if c < 43520 then (if c = 43264 then some (0, 2047) else none) else (if c = 43520 then some (0, 3) else none))) else (if c < 43525 then (if c = 43524 then some (34, 162) else none) else (if c < 43526 then (if c = 43525 then some (0, 65536) else none) else (if c = 43526 then some (0, 65536) else none))))) else (if c < 44288 then (if c < 43531 then (if c < 43529 then (if c = 43527 then some (0, 64) else none) else (if c < 43530 then (if c = 43529 then some (0, 1) else none) else (if c = 43530 then some ((-9223372036854775808), 9223372036854775807) else none))) else (if c < 43532 then (if c = 43531 then some (0, 9) else none) else (if c < 44032 then (if c = 43532 then some (0, 65536) else none) else (if c = 44032 then some (0, 7) else none)))) else (if c < 44544 then (if c < 44291 then (if c = 44288 then some (0, 3) else none) else (if c < 44293 then (if c = 44291 then some (0, 1) else none) else (if c = 44293 then some (0, 80000) else none))) else (if c < 45056 then (if c = 44544 then some (0, 7) else none) else (if c < 45319 then (if c = 45056 then some ((-128), 127) else none) else (if c = 45319 then some (0, 2048) else none)))))) else (if c < 48128 then (if c < 46592 then (if c < 45831 then (if c < 45829 then (if c = 45568 then some ((-1), 4096) else none) else (if c < 45830 then (if c = 45829 then some (0, 2048) else none) else (if c = 45830 then some ((-1000000000), 1000000000) else none))) else (if c < 46080 then (if c = 45831 then some ((-1000000000), 1000000000) else none) else (if c < 46336 then (if c = 46080 then some ((-1000000000), 1000000000) else none) else (if c = 46336 then some ((-1000000000), 1000000000) else none)))) else (if c < 47360 then (if c < 46848 then (if c = 46592 then some ((-1000000000), 1000000000) else none) else (if c < 47104 then (if c = 46848 then some ((-1000000000), 1000000000) else none) else (if c = 47104 then some (0, 2047) else none))) else (if c < 47616 then (if c = 47360 then some (0, 2047) else none) else (if c < 47872 then (if c = 47616 then some (0, 2047) else none) else (if c = 47872 then some (0, 2047) else none))))) else (if c < 49411 then (if c < 48896 then (if c < 48384 then (if c = 48128 then some (0, 2047) else none) else (if c < 48640 then (if c = 48384 then some (0, 2048) else none) else (if c = 48640 then some (0, 2048) else none))) else (if c < 49152 then (if c = 48896 then some (0, 2048) else none) else (if c < 49409 then (if c = 49152 then some (0, 2047) else none) else (if c = 49409 then some (0, 2048) else none)))) else (if c < 49669 then (if c < 49416 then (if c = 49411 then some (0, 16384) else none) else (if c < 49420 then (if c = 49416 then some (0, 8192) else none) else (if c = 49420 then some (0, 16384) else none))) else (if c < 49670 then (if c = 49669 then some (0, 2048) else none) else (if c < 49671 then (if c = 49670 then some ((-1000000000), 1000000000) else none) else (if c = 49671 then some ((-1000000000), 1000000000) else none))))))))) else (if c < 70997 then (if c < 63232 then (if c < 55808 then (if c < 53251 then (if c < 51712 then (if c < 50432 then (if c < 50176 then (if c = 49920 then some ((-1000000000), 1000000000) else none) else (if c = 50176 then some ((-1000000000), 1000000000) else none)) else (if c < 50688 then (if c = 50432 then some ((-1000000000), 1000000000) else none) else (if c < 50944 then (if c = 50688 then some ((-1000000000), 1000000000) else none) else (if c = 50944 then some (0, 3) else none)))) else (if c < 52480 then (if c < 51968 then (if c = 51712 then some (0, 8191) else none) else (if c < 52224 then (if c = 51968 then some ((-1000000000), 1000000000) else none) else (if c = 52224 then some ((-1000000000), 1000000000) else none))) else (if c < 52736 then (if c = 52480 then some (0, 8191) else none) else (if c < 52992 then (if c = 52736 then some (0, 8191) else none) else (if c = 52992 then some (0, 3) else none))))) else (if c < 54272 then (if c < 53504 then (if c < 53259 then (if c = 53251 then some (0, 16384) else none) else (if c < 53264 then (if c = 53259 then some (0, 2048) else none) else (if c = 53264 then some (0, 512) else none))) else (if c < 53760 then (if c = 53504 then some (0, 3) else none) else (if c < 54016 then (if c = 53760 then some (0, 16383) else none) else (if c = 54016 then some (0, 1) else none)))) else (if c < 55040 then (if c < 54528 then (if c = 54272 then some (0, 1) else none) else (if c < 54784 then (if c = 54528 then some (0, 32768) else none) else (if c = 54784 then some (0, 16383) else none))) else (if c < 55296 then (if c = 55040 then some (0, 8191) else none) else (if c < 55552 then (if c = 55296 then some (0, 8193) else none) else (if c = 55552 then some (0, 8191) else none)))))) else (if c < 58624 then (if c < 57095 then (if c < 56841 then (if c < 56320 then (if c = 55808 then some (0, 2048) else none) else (if c < 56838 then (if c = 56320 then some ((-1), 511) else none) else (if c = 56838 then some (0, 512) else none))) else (if c < 57093 then (if c = 56841 then some (0, 512) else none) else (if c < 57094 then (if c = 57093 then some (0, 2048) else none) else (if c = 57094 then some ((-1000000000), 1000000000) else none)))) else (if c < 57856 then (if c < 57344 then (if c = 57095 then some ((-1000000000), 1000000000) else none) else (if c < 57600 then (if c = 57344 then some ((-1000000000), 1000000000) else none) else (if c = 57600 then some ((-1000000000), 1000000000) else none))) else (if c < 58112 then (if c = 57856 then some ((-1000000000), 1000000000) else none) else (if c < 58368 then (if c = 58112 then some ((-1000000000), 1000000000) else none) else (if c = 58368 then some (0, 1) else none))))) else (if c < 61440 then (if c < 60938 then (if c < 59648 then (if c = 58624 then some ((-1), 2) else none) else (if c < 60931 then (if c = 59648 then some (0, 1) else none) else (if c = 60931 then some (0, 1024) else none))) else (if c < 60940 then (if c = 60938 then some (0, 3084) else none) else (if c < 60942 then (if c = 60940 then some (0, 514) else none) else (if c = 60942 then some (0, 512) else none)))) else (if c < 62208 then (if c < 61696 then (if c = 61440 then some ((-1000000000), 1000000000) else none) else (if c < 61952 then (if c = 61696 then some ((-1000000000), 1000000000) else none) else (if c = 61952 then some ((-1), 1023) else none))) else (if c < 62464 then (if c = 62208 then some (0, 1023) else none) else (if c < 62976 then (if c = 62464 then some (0, 1023) else none) else (if c = 62976 then some (0, 1023) else none))))))) else (if c < 70935 then (if c < 70913 then (if c < 65024 then (if c < 64000 then (if c < 63488 then (if c = 63232 then some (0, 1023) else none) else (if c = 63488 then some (0, 1023) else none)) else (if c < 64256 then (if c = 64000 then some (0, 1) else none) else (if c < 64768 then (if c = 64256 then some (0, 2047) else none) else (if c = 64768 then some ((-9223372036854775808), 9223372036854775807) else none)))) else (if c < 70144 then (if c < 69632 then (if c = 65024 then some ((-9223372036854775808), 9223372036854775807) else none) else (if c < 69888 then (if c = 69632 then some (0, 280) else none) else (if c = 69888 then some ((-1), 1) else none))) else (if c < 70400 then (if c = 70144 then some ((-1000000000), 1000000000) else none) else (if c < 70912 then (if c = 70400 then some (0, 31) else none) else (if c = 70912 then some (0, 4) else none))))) else (if c < 70928 then (if c < 70918 then (if c < 70914 then (if c = 70913 then some (0, 3) else none) else (if c < 70916 then (if c = 70914 then some (1, 1000) else none) else (if c = 70916 then some (0, 65536) else none))) else (if c < 70919 then (if c = 70918 then some (0, 131072) else none) else (if c < 70920 then (if c = 70919 then some (0, 9) else none) else (if c = 70920 then some (0, 65536) else none)))) else (if c < 70932 then (if c < 70929 then (if c = 70928 then some (0, 32) else none) else (if c < 70930 then (if c = 70929 then some (0, 65536) else none) else (if c = 70930 then some (0, 65536) else none))) else (if c < 70933 then (if c = 70932 then some (0, 50) else none) else (if c < 70934 then (if c = 70933 then some (0, 1) else none) else (if c = 70934 then some (0, 65536) else none)))))) else (if c < 70971 then (if c < 70943 then (if c < 70938 then (if c < 70936 then (if c = 70935 then some (0, 65536) else none) else (if c < 70937 then (if c = 70936 then some (0, 65536) else none) else (if c = 70937 then some ((-9223372036854775808), 9223372036854775807) else none))) else (if c < 70941 then (if c = 70938 then some (0, 1) else none) else (if c < 70942 then (if c = 70941 then some (0, 60) else none) else (if c = 70942 then some (0, 67584) else none)))) else (if c < 70962 then (if c < 70960 then (if c = 70943 then some (0, 67584) else none) else (if c < 70961 then (if c = 70960 then some (0, 4200) else none) else (if c = 70961 then some (0, 1) else none))) else (if c < 70963 then (if c = 70962 then some ((-1000000000), 1000000000) else none) else (if c < 70969 then (if c = 70963 then some ((-1000000000), 1000000000) else none) else (if c = 70969 then some (0, 2048) else none))))) else (if c < 70988 then (if c < 70981 then (if c < 70974 then (if c = 70971 then some (0, 1025) else none) else (if c < 70977 then (if c = 70974 then some (0, 4200) else none) else (if c = 70977 then some (0, 8400) else none))) else (if c < 70982 then (if c = 70981 then some (0, 8192) else none) else (if c < 70987 then (if c = 70982 then some (0, 24577) else none) else (if c = 70987 then some (0, 8193) else none)))) else (if c < 70991 then (if c < 70989 then (if c = 70988 then some ((-4611686018427387904), 4611686018427387904) else none) else (if c < 70990 then (if c = 70989 then some (0, 8589934592) else none) else (if c = 70990 then some (0, 1) else none))) else (if c < 70992 then (if c = 70991 then some ((-4611686018427387904), 4611686018427387904) else none) else (if c < 70993 then (if c = 70992 then some (0, 8589934592) else none) else (if c = 70993 then some (0, 1) else none)))))))) else (if c < 79104 then (if c < 72960 then (if c < 71028 then (if c < 71020 then (if c < 71003 then (if c < 71001 then (if c = 70997 then some (0, 16384) else none) else (if c = 71001 then some (0, 16384) else none)) else (if c < 71006 then (if c = 71003 then some (0, 8193) else none) else (if c < 71011 then (if c = 71006 then some (0, 33000) else none) else (if c = 71011 then some (0, 8193) else none)))) else (if c < 71023 then (if c < 71021 then (if c = 71020 then some ((-1000000000), 1000000000) else none) else (if c < 71022 then (if c = 71021 then some ((-1000000000), 1000000000) else none) else (if c = 71022 then some ((-2000000000), 2000000000) else none))) else (if c < 71024 then (if c = 71023 then some ((-2000000000), 2000000000) else none) else (if c < 71025 then (if c = 71024 then some ((-2000000000), 2000000000) else none) else (if c = 71025 then some ((-2000000000), 2000000000) else none))))) else (if c < 71168 then (if c < 71037 then (if c < 71031 then (if c = 71028 then some (0, 5000) else none) else (if c < 71033 then (if c = 71031 then some (0, 1024) else none) else (if c = 71033 then some (0, 1024) else none))) else (if c < 71039 then (if c = 71037 then some (0, 8200) else none) else (if c < 71043 then (if c = 71039 then some (0, 1024) else none) else (if c = 71043 then some (0, 2100) else none)))) else (if c < 72192 then (if c < 71424 then (if c = 71168 then some ((-128), 127) else none) else (if c < 71680 then (if c = 71424 then some ((-128), 127) else none) else (if c = 71680 then some (0, 2048) else none))) else (if c < 72448 then (if c = 72192 then some (0, 2048) else none) else (if c < 72704 then (if c = 72448 then some ((-1000000000), 1000000000) else none) else (if c = 72704 then some ((-1000000000), 1000000000) else none)))))) else (if c < 76032 then (if c < 74496 then (if c < 73728 then (if c < 73216 then (if c = 72960 then some ((-1), 4096) else none) else (if c < 73472 then (if c = 73216 then some (0, 31) else none) else (if c = 73472 then some (0, 2047) else none))) else (if c < 73984 then (if c = 73728 then some ((-9223372036854775808), 9223372036854775807) else none) else (if c < 74240 then (if c = 73984 then some (0, 7) else none) else (if c = 74240 then some ((-1000000000), 4000000000) else none)))) else (if c < 75264 then (if c < 74752 then (if c = 74496 then some ((-1000000000), 4000000000) else none) else (if c < 75008 then (if c = 74752 then some ((-4000000000), 1000000000) else none) else (if c = 75008 then some ((-4000000000), 1000000000) else none))) else (if c < 75520 then (if c = 75264 then some (0, 4294967295) else none) else (if c < 75776 then (if c = 75520 then some (0, 300) else none) else (if c = 75776 then some ((-1), 1) else none))))) else (if c < 77568 then (if c < 76800 then (if c < 76288 then (if c = 76032 then some ((-9223372036854775808), 9223372036854775807) else none) else (if c < 76544 then (if c = 76288 then some ((-9223372036854775808), 9223372036854775807) else none) else (if c = 76544 then some ((-1000000000), 1000000000) else none))) else (if c < 77056 then (if c = 76800 then some ((-1000000000), 1000000000) else none) else (if c < 77312 then (if c = 77056 then some ((-1000000000), 1000000000) else none) else (if c = 77312 then some ((-1000000000), 1000000000) else none)))) else (if c < 78336 then (if c < 77824 then (if c = 77568 then some (0, 2048) else none) else (if c < 78080 then (if c = 77824 then some (0, 2048) else none) else (if c = 78080 then some (0, 1) else none))) else (if c < 78592 then (if c = 78336 then some (0, 67584) else none) else (if c < 78848 then (if c = 78592 then some (0, 2048) else none) else (if c = 78848 then some (0, 1025) else none))))))) else (if c < 84992 then (if c < 81920 then (if c < 80384 then (if c < 79616 then (if c < 79360 then (if c = 79104 then some (0, 2047) else none) else (if c = 79360 then some (0, 4200) else none)) else (if c < 79872 then (if c = 79616 then some (0, 2048) else none) else (if c < 80128 then (if c = 79872 then some ((-1000000000), 1000000000) else none) else (if c = 80128 then some ((-1000000000), 1000000000) else none)))) else (if c < 81152 then (if c < 80640 then (if c = 80384 then some (0, 2047) else none) else (if c < 80896 then (if c = 80640 then some (0, 4199) else none) else (if c = 80896 then some (0, 6299) else none))) else (if c < 81408 then (if c = 81152 then some ((-1000000000), 1000000000) else none) else (if c < 81664 then (if c = 81408 then some ((-1000000000), 1000000000) else none) else (if c = 81664 then some (0, 8191) else none))))) else (if c < 83456 then (if c < 82688 then (if c < 82176 then (if c = 81920 then some ((-4611686018427387904), 4611686018427387904) else none) else (if c < 82432 then (if c = 82176 then some (0, 8589934592) else none) else (if c = 82432 then some (0, 1) else none))) else (if c < 82944 then (if c = 82688 then some (0, 8191) else none) else (if c < 83200 then (if c = 82944 then some (0, 8191) else none) else (if c = 83200 then some (0, 3) else none)))) else (if c < 84224 then (if c < 83712 then (if c = 83456 then some (0, 8191) else none) else (if c < 83968 then (if c = 83712 then some (0, 8191) else none) else (if c = 83968 then some (0, 1) else none))) else (if c < 84480 then (if c = 84224 then some (0, 8191) else none) else (if c < 84736 then (if c = 84480 then some ((-1), 8193) else none) else (if c = 84736 then some (0, 8191) else none)))))) else (if c < 88832 then (if c < 86784 then (if c < 86016 then (if c < 85248 then (if c = 84992 then some (0, 33000) else none) else (if c < 85760 then (if c = 85248 then some (0, 33000) else none) else (if c = 85760 then some ((-1), 8192) else none))) else (if c < 86272 then (if c = 86016 then some (0, 31) else none) else (if c < 86528 then (if c = 86272 then some ((-1), 2) else none) else (if c = 86528 then some (0, 2048) else none)))) else (if c < 87552 then (if c < 87040 then (if c = 86784 then some (0, 4200) else none) else (if c < 87296 then (if c = 87040 then some (0, 1) else none) else (if c = 87296 then some (0, 67583) else none))) else (if c < 87808 then (if c = 87552 then some (0, 2100) else none) else (if c < 88576 then (if c = 87808 then some ((-1), 2) else none) else (if c = 88576 then some ((-1000000000), 1000000000) else none))))) else (if c < 90368 then (if c < 89600 then (if c < 89088 then (if c = 88832 then some ((-1000000000), 1000000000) else none) else (if c < 89344 then (if c = 89088 then some (0, 1023) else none) else (if c = 89344 then some (0, 1) else none))) else (if c < 89856 then (if c = 89600 then some (0, 1023) else none) else (if c < 90112 then (if c = 89856 then some (0, 1023) else none) else (if c = 90112 then some (0, 1023) else none)))) else (if c < 91136 then (if c < 90624 then (if c = 90368 then some (0, 1023) else none) else (if c < 90880 then (if c = 90624 then some (0, 1023) else none) else (if c = 90880 then some (0, 1023) else none))) else (if c < 91392 then (if c = 91136 then some (0, 1) else none) else (if c < 91648 then (if c = 91392 then some (0, 67583) else none) else (if c = 91648 then some (0, 67583) else none)))))))))
def BD (o : Option (Int × Int)) (v : Int) : Prop := match o with
  | none => True
  | some q => q.1 ≤ v ∧ v ≤ q.2
/-- every cell within its bounds -/
def II (σ : SG) : Prop := ∀ c i, BD (bnd c) (σ c i)
theorem II_sg {σ : SG} {c : Nat} {i v : Int} (h : II σ) (hv : BD (bnd c) v) : II (sg σ c i v) := by
  intro c' i'
  unfold sg
  by_cases q : c' = c ∧ i' = i
  · rw [if_pos q, q.1]; exact hv
  · rw [if_neg q]; exact h c' i'
theorem ii_of {σ : SG} (h : II σ) {c : Nat} {lo hi : Int} (hb : bnd c = some (lo, hi)) (i : Int) : lo ≤ σ c i ∧ σ c i ≤ hi := by
  have := h c i
  rw [hb] at this
  exact this
variable {α β : Type}
theorem wp_rdI {σ : SG} {c : Nat} {N i : Int} {k : Int → Option β} {Q : β → Prop} (h1 : 0 ≤ i) (h2 : i < N) (hk : ∀ x, x = σ c i → wp_ (k x) Q) : wp_ (rd_ σ c N i k) Q := wp_rd h1 h2 (hk _ rfl)
theorem wp_waI {σ : SG} {c : Nat} {N i v : Int} {k : SG → Option β} {Q : β → Prop} {lo hi : Int} (h : II σ) (hb : bnd c = some (lo, hi)) (h1 : 0 ≤ i) (h2 : i < N) (hv : lo ≤ v ∧ v ≤ hi) (hk : ∀ τ, II τ → τ = sg σ c i v → wp_ (k τ) Q) : wp_ (wa_ σ c N i v k) Q := wp_wa h1 h2 (hk _ (II_sg h (by rw [hb]; exact hv)) rfl)
theorem wp_waN {σ : SG} {c : Nat} {N i v : Int} {k : SG → Option β} {Q : β → Prop} (h : II σ) (hb : bnd c = none) (h1 : 0 ≤ i) (h2 : i < N) (hk : ∀ τ, II τ → τ = sg σ c i v → wp_ (k τ) Q) : wp_ (wa_ σ c N i v k) Q := wp_wa h1 h2 (hk _ (II_sg h (by rw [hb]; exact trivial)) rfl)
theorem wp_wfI {σ : SG} {c : Nat} {v : Int} {k : SG → Option β} {Q : β → Prop} {lo hi : Int} (h : II σ) (hb : bnd c = some (lo, hi)) (hv : lo ≤ v ∧ v ≤ hi) (hk : ∀ τ, II τ → τ = sg σ c 0 v → wp_ (k τ) Q) : wp_ (wf_ σ c v k) Q := hk _ (II_sg h (by rw [hb]; exact hv)) rfl
theorem wp_wfN {σ : SG} {c : Nat} {v : Int} {k : SG → Option β} {Q : β → Prop} (h : II σ) (hb : bnd c = none) (hk : ∀ τ, II τ → τ = sg σ c 0 v → wp_ (k τ) Q) : wp_ (wf_ σ c v k) Q := hk _ (II_sg h (by rw [hb]; exact trivial)) rfl
theorem wp_lt {x : α} {k : α → Option β} {Q : β → Prop} (hk : ∀ y, y = x → wp_ (k y) Q) : wp_ (lt_ x k) Q := hk _ rfl
def FR (ms : List Nat) (σ τ : SG) : Prop := ∀ c, c ∉ ms → τ c = σ c
theorem FR_refl (ms : List Nat) (σ : SG) : FR ms σ σ := fun _ _ => rfl
theorem FR_sg {σ τ : SG} {c : Nat} {i v : Int} (e : τ = sg σ c i v) : FR [c] σ τ := by
  intro c' h
  subst e
  funext j
  exact sg_nc (fun q => h (by rw [q]; exact List.mem_singleton.mpr rfl))
theorem FR_le {ms m1 : List Nat} {σ τ : SG} (a : FR m1 σ τ) (h1 : (m1.all fun c => ms.contains c) = true) : FR ms σ τ := by
  intro c hc
  refine a c (fun q => hc ?_)
  have := List.all_eq_true.mp h1 c q
  simpa using this
theorem FR_tr {ms m1 m2 : List Nat} {σ τ υ : SG} (a : FR m1 σ τ) (b : FR m2 τ υ) (h1 : (m1.all fun c => ms.contains c) = true) (h2 : (m2.all fun c => ms.contains c) = true) : FR ms σ υ := by
  intro c hc
  rw [FR_le b h2 c hc, FR_le a h1 c hc]
theorem FR_at {ms : List Nat} {σ τ : SG} (a : FR ms σ τ) {c : Nat} (h : ms.contains c = false) (i : Int) : τ c i = σ c i := by
  rw [a c (fun q => by rw [List.contains_iff_mem.mpr q] at h; cases h)]
theorem sg_val {σ τ : SG} {c : Nat} {i v : Int} (e : τ = sg σ c i v) : τ c i = v := by rw [e]; exact sg_at _ _ _ _
variable {S R : Type}
theorem wp_inl {I : S → Prop} {m : S → Nat} {s s' : S} {Q : R → Prop} (h : I s') (hm : m s' < m s) : wp_ (some (Sum.inl s' : S ⊕ R)) (fun o => (∀ s', o = .inl s' → I s' ∧ m s' < m s) ∧ (∀ r, o = .inr r → Q r)) :=
  ⟨_, rfl, fun _ e => by cases e; exact ⟨h, hm⟩, fun _ e => nomatch e⟩
theorem wp_inr {I : S → Prop} {m : S → Nat} {s : S} {r : R} {Q : R → Prop} (h : Q r) : wp_ (some (Sum.inr r : S ⊕ R)) (fun o => (∀ s', o = .inl s' → I s' ∧ m s' < m s) ∧ (∀ r, o = .inr r → Q r)) :=
  ⟨_, rfl, ⟨fun _ e => (by cases e), fun _ e => by cases e; exact h⟩⟩
theorem wp_xl {v : α} {P : α → Prop} {Q : β → Prop} (h : P v) : wp_ (some (Sum.inl v : α ⊕ β)) (fun x => (∀ v, x = .inl v → P v) ∧ ∀ q, x = .inr q → Q q) :=
  ⟨_, rfl, fun _ e => by cases e; exact h, fun _ e => nomatch e⟩
theorem wp_xr {v : β} {P : α → Prop} {Q : β → Prop} (h : Q v) : wp_ (some (Sum.inr v : α ⊕ β)) (fun x => (∀ v, x = .inl v → P v) ∧ ∀ q, x = .inr q → Q q) :=
  ⟨_, rfl, ⟨fun _ e => (by cases e), fun _ e => by cases e; exact h⟩⟩
theorem w8_rng (x : Int) : -128 ≤ w8 x ∧ w8 x ≤ 127 := ⟨w8_lo x, by have := w8_hi x; omega⟩
theorem w32_rng (x : Int) : -2147483648 ≤ w32 x ∧ w32 x ≤ 2147483647 := ⟨w32_lo x, by have := w32_hi x; omega⟩
theorem w64_rng (x : Int) : -9223372036854775808 ≤ w64 x ∧ w64 x ≤ 9223372036854775807 := ⟨w64_lo x, by have := w64_hi x; omega⟩
theorem q_ian_bd (x : Int) {m : Int} (h0 : 0 ≤ m) (h1 : m < 2147483648) : 0 ≤ q_ian x m ∧ q_ian x m ≤ m := by
  show 0 ≤ ((Int32.ofInt x).toBitVec &&& (Int32.ofInt m).toBitVec).toInt ∧ ((Int32.ofInt x).toBitVec &&& (Int32.ofInt m).toBitVec).toInt ≤ m
  have hb : (Int32.ofInt m).toBitVec.toNat = m.toNat := by
    show (BitVec.ofInt 32 m).toNat = _
    rw [BitVec.toNat_ofInt]
    omega
  have hc : ((Int32.ofInt x).toBitVec &&& (Int32.ofInt m).toBitVec).toNat ≤ m.toNat := by
    rw [BitVec.toNat_and, hb]
    exact Nat.and_le_right
  rw [BitVec.toInt_eq_toNat_of_lt (by omega)]
  omega
theorem q_lan_bd (x : Int) {m : Int} (h0 : 0 ≤ m) (h1 : m < 9223372036854775808) : 0 ≤ q_lan x m ∧ q_lan x m ≤ m := by
  show 0 ≤ ((Int64.ofInt x).toBitVec &&& (Int64.ofInt m).toBitVec).toInt ∧ ((Int64.ofInt x).toBitVec &&& (Int64.ofInt m).toBitVec).toInt ≤ m
  have hb : (Int64.ofInt m).toBitVec.toNat = m.toNat := by
    show (BitVec.ofInt 64 m).toNat = _
    rw [BitVec.toNat_ofInt]
    omega
  have hc : ((Int64.ofInt x).toBitVec &&& (Int64.ofInt m).toBitVec).toNat ≤ m.toNat := by
    rw [BitVec.toNat_and, hb]
    exact Nat.and_le_right
  rw [BitVec.toInt_eq_toNat_of_lt (by omega)]
  omega
theorem q_lor_rng (x y : Int) : -9223372036854775808 ≤ q_lor x y ∧ q_lor x y ≤ 9223372036854775807 := ⟨Int64.le_toInt _, Int.le_of_lt_add_one (Int64.toInt_lt _)⟩
theorem q_lan_rng (x y : Int) : -9223372036854775808 ≤ q_lan x y ∧ q_lan x y ≤ 9223372036854775807 := ⟨Int64.le_toInt _, Int.le_of_lt_add_one (Int64.toInt_lt _)⟩
theorem q_lxo_rng (x y : Int) : -9223372036854775808 ≤ q_lxo x y ∧ q_lxo x y ≤ 9223372036854775807 := ⟨Int64.le_toInt _, Int.le_of_lt_add_one (Int64.toInt_lt _)⟩
theorem q_lsl_rng (x y : Int) : -9223372036854775808 ≤ q_lsl x y ∧ q_lsl x y ≤ 9223372036854775807 := ⟨Int64.le_toInt _, Int.le_of_lt_add_one (Int64.toInt_lt _)⟩
theorem q_lsr_rng (x y : Int) : -9223372036854775808 ≤ q_lsr x y ∧ q_lsr x y ≤ 9223372036854775807 := ⟨Int64.le_toInt _, Int.le_of_lt_add_one (Int64.toInt_lt _)⟩
theorem q_lus_rng (x y : Int) : -9223372036854775808 ≤ q_lus x y ∧ q_lus x y ≤ 9223372036854775807 := ⟨Int64.le_toInt _, Int.le_of_lt_add_one (Int64.toInt_lt _)⟩
theorem q_ior_rng (x y : Int) : -2147483648 ≤ q_ior x y ∧ q_ior x y ≤ 2147483647 := ⟨Int32.le_toInt _, Int.le_of_lt_add_one (Int32.toInt_lt _)⟩
theorem q_ian_rng (x y : Int) : -2147483648 ≤ q_ian x y ∧ q_ian x y ≤ 2147483647 := ⟨Int32.le_toInt _, Int.le_of_lt_add_one (Int32.toInt_lt _)⟩
theorem q_ixo_rng (x y : Int) : -2147483648 ≤ q_ixo x y ∧ q_ixo x y ≤ 2147483647 := ⟨Int32.le_toInt _, Int.le_of_lt_add_one (Int32.toInt_lt _)⟩
theorem q_isl_rng (x y : Int) : -2147483648 ≤ q_isl x y ∧ q_isl x y ≤ 2147483647 := ⟨Int32.le_toInt _, Int.le_of_lt_add_one (Int32.toInt_lt _)⟩
theorem q_isr_rng (x y : Int) : -2147483648 ≤ q_isr x y ∧ q_isr x y ≤ 2147483647 := ⟨Int32.le_toInt _, Int.le_of_lt_add_one (Int32.toInt_lt _)⟩
theorem q_ius_rng (x y : Int) : -2147483648 ≤ q_ius x y ∧ q_ius x y ≤ 2147483647 := ⟨Int32.le_toInt _, Int.le_of_lt_add_one (Int32.toInt_lt _)⟩
theorem q_mni_bd (x y : Int) : q_mni x y ≤ w32 x ∧ q_mni x y ≤ w32 y ∧ (q_mni x y = w32 x ∨ q_mni x y = w32 y) := by unfold q_mni; split <;> omega
theorem q_mxi_bd (x y : Int) : w32 x ≤ q_mxi x y ∧ w32 y ≤ q_mxi x y ∧ (q_mxi x y = w32 x ∨ q_mxi x y = w32 y) := by unfold q_mxi; split <;> omega
theorem q_mnl_bd (x y : Int) : q_mnl x y ≤ w64 x ∧ q_mnl x y ≤ w64 y ∧ (q_mnl x y = w64 x ∨ q_mnl x y = w64 y) := by unfold q_mnl; split <;> omega
theorem q_mxl_bd (x y : Int) : w64 x ≤ q_mxl x y ∧ w64 y ≤ q_mxl x y ∧ (q_mxl x y = w64 x ∨ q_mxl x y = w64 y) := by unfold q_mxl; split <;> omega
theorem q_abi_bd (x : Int) : (0 ≤ w32 x ∧ q_abi x = x) ∨ (w32 x < 0 ∧ q_abi x = -x) := by unfold q_abi; split <;> omega
theorem q_abl_bd (x : Int) : (0 < w64 x ∧ q_abl x = x) ∨ (w64 x ≤ 0 ∧ q_abl x = -x) := by unfold q_abl; split <;> omega
theorem bz_bd (b : Bool) : 0 ≤ bz b ∧ bz b ≤ 1 := by cases b <;> decide
theorem q_irm_bd (x y : Int) (h : 0 < w32 y) : -(w32 y) < q_irm x y ∧ q_irm x y < w32 y ∧ (0 ≤ w32 x → 0 ≤ q_irm x y ∧ q_irm x y ≤ w32 x) := by
  unfold q_irm
  have a := Int.tmod_lt_of_pos (w32 x) h
  by_cases q : 0 ≤ w32 x
  · have b := Int.tmod_nonneg (w32 y) q
    have c : (w32 x).tmod (w32 y) ≤ w32 x := by
      rw [Int.tmod_eq_emod_of_nonneg q, Int.emod_def]
      have := Int.mul_nonneg (Int.le_of_lt h) (Int.ediv_nonneg q (Int.le_of_lt h))
      omega
    omega
  · have b : (-(w32 x)).tmod (w32 y) < w32 y := Int.tmod_lt_of_pos _ h
    rw [Int.neg_tmod] at b
    omega
theorem q_idv_bd (x y : Int) (h : 0 < w32 y) (hx : 0 ≤ w32 x) : 0 ≤ q_idv x y ∧ q_idv x y ≤ w32 x := by
  unfold q_idv
  rw [Int.tdiv_eq_ediv_of_nonneg hx]
  exact ⟨Int.ediv_nonneg hx (Int.le_of_lt h), Int.ediv_le_self _ hx⟩
theorem q_idv2 (x : Int) (hx : 0 ≤ w32 x) : q_idv x 2 = w32 x / 2 := by
  unfold q_idv
  rw [w32_of (x := 2) (by decide) (by decide), Int.tdiv_eq_ediv_of_nonneg hx]
theorem wp_bt {o : Option ((α ⊕ Nat) × SG)} {k : α → SG → Option ((β ⊕ Nat) × SG)} {P : (α ⊕ Nat) × SG → Prop} {Q : (β ⊕ Nat) × SG → Prop} (h : wp_ o P) (h1 : ∀ x s, P (.inl x, s) → wp_ (k x s) Q) (h2 : ∀ e s, P (.inr e, s) → Q (.inr e, s)) : wp_ (bt_ o k) Q := by
  obtain ⟨⟨r, s⟩, e, hp⟩ := h
  subst e
  cases r with
  | inl x => exact h1 x s hp
  | inr e => exact ⟨_, rfl, h2 e s hp⟩
end SAF
theorem b_kQ_tapeSize : bnd kQ_tapeSize = some (0, 65536) := by decide +kernel
theorem ii_kQ_tapeSize {σ : SG} (h : II σ) (i : Int) : 0 ≤ σ kQ_tapeSize i ∧ σ kQ_tapeSize i ≤ 65536 := ii_of h b_kQ_tapeSize i
theorem b_kQ_wrong : bnd kQ_wrong = some (0, 9) := by decide +kernel
theorem ii_kQ_wrong {σ : SG} (h : II σ) (i : Int) : 0 ≤ σ kQ_wrong i ∧ σ kQ_wrong i ≤ 9 := ii_of h b_kQ_wrong i
theorem b_kQ_wrongPlace : bnd kQ_wrongPlace = some (0, 65536) := by decide +kernel
theorem ii_kQ_wrongPlace {σ : SG} (h : II σ) (i : Int) : 0 ≤ σ kQ_wrongPlace i ∧ σ kQ_wrongPlace i ≤ 65536 := ii_of h b_kQ_wrongPlace i
theorem b_kQ_foundCount : bnd kQ_foundCount = some (0, 32) := by decide +kernel
theorem ii_kQ_foundCount {σ : SG} (h : II σ) (i : Int) : 0 ≤ σ kQ_foundCount i ∧ σ kQ_foundCount i ≤ 32 := ii_of h b_kQ_foundCount i
theorem b_kQ_tape : bnd kQ_tape = some ((-128), 127) := by decide +kernel
theorem ii_kQ_tape {σ : SG} (h : II σ) (i : Int) : (-128) ≤ σ kQ_tape i ∧ σ kQ_tape i ≤ 127 := ii_of h b_kQ_tape i
theorem b_kW_digits : bnd kW_digits = some (0, 3) := by decide +kernel
theorem ii_kW_digits {σ : SG} (h : II σ) (i : Int) : 0 ≤ σ kW_digits i ∧ σ kW_digits i ≤ 3 := ii_of h b_kW_digits i
theorem b_kW_shape : bnd kW_shape = some (34, 162) := by decide +kernel
theorem ii_kW_shape {σ : SG} (h : II σ) (i : Int) : 34 ≤ σ kW_shape i ∧ σ kW_shape i ≤ 162 := ii_of h b_kW_shape i
theorem b_kW_length : bnd kW_length = some (0, 65536) := by decide +kernel
theorem ii_kW_length {σ : SG} (h : II σ) (i : Int) : 0 ≤ σ kW_length i ∧ σ kW_length i ≤ 65536 := ii_of h b_kW_length i
theorem b_kW_at : bnd kW_at = some (0, 65536) := by decide +kernel
theorem ii_kW_at {σ : SG} (h : II σ) (i : Int) : 0 ≤ σ kW_at i ∧ σ kW_at i ≤ 65536 := ii_of h b_kW_at i
theorem b_kW_depth : bnd kW_depth = some (0, 64) := by decide +kernel
theorem ii_kW_depth {σ : SG} (h : II σ) (i : Int) : 0 ≤ σ kW_depth i ∧ σ kW_depth i ≤ 64 := ii_of h b_kW_depth i
theorem b_kW_collections : bnd kW_collections = none := by decide +kernel
theorem b_kW_number : bnd kW_number = some ((-9223372036854775808), 9223372036854775807) := by decide +kernel
theorem ii_kW_number {σ : SG} (h : II σ) (i : Int) : (-9223372036854775808) ≤ σ kW_number i ∧ σ kW_number i ≤ 9223372036854775807 := ii_of h b_kW_number i
theorem b_kW_wrong : bnd kW_wrong = some (0, 8) := by decide +kernel
theorem ii_kW_wrong {σ : SG} (h : II σ) (i : Int) : 0 ≤ σ kW_wrong i ∧ σ kW_wrong i ≤ 8 := ii_of h b_kW_wrong i
theorem b_kW_place : bnd kW_place = some (0, 65536) := by decide +kernel
theorem ii_kW_place {σ : SG} (h : II σ) (i : Int) : 0 ≤ σ kW_place i ∧ σ kW_place i ≤ 65536 := ii_of h b_kW_place i
theorem b_kW_levelKind : bnd kW_levelKind = some (0, 8) := by decide +kernel
theorem ii_kW_levelKind {σ : SG} (h : II σ) (i : Int) : 0 ≤ σ kW_levelKind i ∧ σ kW_levelKind i ≤ 8 := ii_of h b_kW_levelKind i
theorem b_kW_levelCounter : bnd kW_levelCounter = some (0, 2047) := by decide +kernel
theorem ii_kW_levelCounter {σ : SG} (h : II σ) (i : Int) : 0 ≤ σ kW_levelCounter i ∧ σ kW_levelCounter i ≤ 2047 := ii_of h b_kW_levelCounter i
theorem b_kB_digits : bnd kB_digits = some (0, 3) := by decide +kernel
theorem ii_kB_digits {σ : SG} (h : II σ) (i : Int) : 0 ≤ σ kB_digits i ∧ σ kB_digits i ≤ 3 := ii_of h b_kB_digits i
theorem b_kB_shape : bnd kB_shape = some (34, 162) := by decide +kernel
theorem ii_kB_shape {σ : SG} (h : II σ) (i : Int) : 34 ≤ σ kB_shape i ∧ σ kB_shape i ≤ 162 := ii_of h b_kB_shape i
theorem b_kB_length : bnd kB_length = some (0, 65536) := by decide +kernel
theorem ii_kB_length {σ : SG} (h : II σ) (i : Int) : 0 ≤ σ kB_length i ∧ σ kB_length i ≤ 65536 := ii_of h b_kB_length i
theorem b_kB_at : bnd kB_at = some (0, 65536) := by decide +kernel
theorem ii_kB_at {σ : SG} (h : II σ) (i : Int) : 0 ≤ σ kB_at i ∧ σ kB_at i ≤ 65536 := ii_of h b_kB_at i
theorem b_kB_depth : bnd kB_depth = some (0, 64) := by decide +kernel
theorem ii_kB_depth {σ : SG} (h : II σ) (i : Int) : 0 ≤ σ kB_depth i ∧ σ kB_depth i ≤ 64 := ii_of h b_kB_depth i
theorem b_kB_collections : bnd kB_collections = none := by decide +kernel
theorem b_kB_lowFirst : bnd kB_lowFirst = some (0, 1) := by decide +kernel
theorem ii_kB_lowFirst {σ : SG} (h : II σ) (i : Int) : 0 ≤ σ kB_lowFirst i ∧ σ kB_lowFirst i ≤ 1 := ii_of h b_kB_lowFirst i
theorem b_kB_number : bnd kB_number = some ((-9223372036854775808), 9223372036854775807) := by decide +kernel
theorem ii_kB_number {σ : SG} (h : II σ) (i : Int) : (-9223372036854775808) ≤ σ kB_number i ∧ σ kB_number i ≤ 9223372036854775807 := ii_of h b_kB_number i
theorem b_kB_wrong : bnd kB_wrong = some (0, 9) := by decide +kernel
theorem ii_kB_wrong {σ : SG} (h : II σ) (i : Int) : 0 ≤ σ kB_wrong i ∧ σ kB_wrong i ≤ 9 := ii_of h b_kB_wrong i
theorem b_kB_place : bnd kB_place = some (0, 65536) := by decide +kernel
theorem ii_kB_place {σ : SG} (h : II σ) (i : Int) : 0 ≤ σ kB_place i ∧ σ kB_place i ≤ 65536 := ii_of h b_kB_place i
theorem b_kB_levelLeft : bnd kB_levelLeft = none := by decide +kernel
theorem b_kB_levelKind : bnd kB_levelKind = some (0, 7) := by decide +kernel
theorem ii_kB_levelKind {σ : SG} (h : II σ) (i : Int) : 0 ≤ σ kB_levelKind i ∧ σ kB_levelKind i ≤ 7 := ii_of h b_kB_levelKind i
theorem b_kO_digits : bnd kO_digits = some (0, 3) := by decide +kernel
theorem ii_kO_digits {σ : SG} (h : II σ) (i : Int) : 0 ≤ σ kO_digits i ∧ σ kO_digits i ≤ 3 := ii_of h b_kO_digits i
theorem b_kO_lowFirst : bnd kO_lowFirst = some (0, 1) := by decide +kernel
theorem ii_kO_lowFirst {σ : SG} (h : II σ) (i : Int) : 0 ≤ σ kO_lowFirst i ∧ σ kO_lowFirst i ≤ 1 := ii_of h b_kO_lowFirst i
theorem b_kO_size : bnd kO_size = some (0, 80000) := by decide +kernel
theorem ii_kO_size {σ : SG} (h : II σ) (i : Int) : 0 ≤ σ kO_size i ∧ σ kO_size i ≤ 80000 := ii_of h b_kO_size i
theorem b_kO_levelKind : bnd kO_levelKind = some (0, 7) := by decide +kernel
theorem ii_kO_levelKind {σ : SG} (h : II σ) (i : Int) : 0 ≤ σ kO_levelKind i ∧ σ kO_levelKind i ≤ 7 := ii_of h b_kO_levelKind i
theorem b_kO_levelLeft : bnd kO_levelLeft = none := by decide +kernel
theorem b_kO_row : bnd kO_row = some ((-128), 127) := by decide +kernel
theorem ii_kO_row {σ : SG} (h : II σ) (i : Int) : (-128) ≤ σ kO_row i ∧ σ kO_row i ≤ 127 := ii_of h b_kO_row i
theorem b_kJ_rings : bnd kJ_rings = some (0, 2048) := by decide +kernel
theorem ii_kJ_rings {σ : SG} (h : II σ) (i : Int) : 0 ≤ σ kJ_rings i ∧ σ kJ_rings i ≤ 2048 := ii_of h b_kJ_rings i
theorem b_kJ_place : bnd kJ_place = some ((-1), 4096) := by decide +kernel
theorem ii_kJ_place {σ : SG} (h : II σ) (i : Int) : (-1) ≤ σ kJ_place i ∧ σ kJ_place i ≤ 4096 := ii_of h b_kJ_place i
theorem b_kJ_number : bnd kJ_number = some (0, 2047) := by decide +kernel
theorem ii_kJ_number {σ : SG} (h : II σ) (i : Int) : 0 ≤ σ kJ_number i ∧ σ kJ_number i ≤ 2047 := ii_of h b_kJ_number i
theorem b_kJ_ringPart : bnd kJ_ringPart = some (0, 2047) := by decide +kernel
theorem ii_kJ_ringPart {σ : SG} (h : II σ) (i : Int) : 0 ≤ σ kJ_ringPart i ∧ σ kJ_ringPart i ≤ 2047 := ii_of h b_kJ_ringPart i
theorem b_kJ_ringNumber : bnd kJ_ringNumber = some (0, 2047) := by decide +kernel
theorem ii_kJ_ringNumber {σ : SG} (h : II σ) (i : Int) : 0 ≤ σ kJ_ringNumber i ∧ σ kJ_ringNumber i ≤ 2047 := ii_of h b_kJ_ringNumber i
theorem b_kJ_ringBegin : bnd kJ_ringBegin = some (0, 2047) := by decide +kernel
theorem ii_kJ_ringBegin {σ : SG} (h : II σ) (i : Int) : 0 ≤ σ kJ_ringBegin i ∧ σ kJ_ringBegin i ≤ 2047 := ii_of h b_kJ_ringBegin i
theorem b_kJ_ringEnd : bnd kJ_ringEnd = some (0, 2048) := by decide +kernel
theorem ii_kJ_ringEnd {σ : SG} (h : II σ) (i : Int) : 0 ≤ σ kJ_ringEnd i ∧ σ kJ_ringEnd i ≤ 2048 := ii_of h b_kJ_ringEnd i
theorem b_kJ_partBegin : bnd kJ_partBegin = some (0, 2048) := by decide +kernel
theorem ii_kJ_partBegin {σ : SG} (h : II σ) (i : Int) : 0 ≤ σ kJ_partBegin i ∧ σ kJ_partBegin i ≤ 2048 := ii_of h b_kJ_partBegin i
theorem b_kJ_partEnd : bnd kJ_partEnd = some (0, 2048) := by decide +kernel
theorem ii_kJ_partEnd {σ : SG} (h : II σ) (i : Int) : 0 ≤ σ kJ_partEnd i ∧ σ kJ_partEnd i ≤ 2048 := ii_of h b_kJ_partEnd i
theorem b_kJ_joined : bnd kJ_joined = some (0, 2047) := by decide +kernel
theorem ii_kJ_joined {σ : SG} (h : II σ) (i : Int) : 0 ≤ σ kJ_joined i ∧ σ kJ_joined i ≤ 2047 := ii_of h b_kJ_joined i
theorem b_kN_lengthless : bnd kN_lengthless = some (0, 2048) := by decide +kernel
theorem ii_kN_lengthless {σ : SG} (h : II σ) (i : Int) : 0 ≤ σ kN_lengthless i ∧ σ kN_lengthless i ≤ 2048 := ii_of h b_kN_lengthless i
theorem b_kN_keyCount : bnd kN_keyCount = some (0, 16384) := by decide +kernel
theorem ii_kN_keyCount {σ : SG} (h : II σ) (i : Int) : 0 ≤ σ kN_keyCount i ∧ σ kN_keyCount i ≤ 16384 := ii_of h b_kN_keyCount i
theorem b_kN_hot : bnd kN_hot = some (0, 8192) := by decide +kernel
theorem ii_kN_hot {σ : SG} (h : II σ) (i : Int) : 0 ≤ σ kN_hot i ∧ σ kN_hot i ≤ 8192 := ii_of h b_kN_hot i
theorem b_kN_pieces : bnd kN_pieces = some (0, 16384) := by decide +kernel
theorem ii_kN_pieces {σ : SG} (h : II σ) (i : Int) : 0 ≤ σ kN_pieces i ∧ σ kN_pieces i ≤ 16384 := ii_of h b_kN_pieces i
theorem b_kN_keys : bnd kN_keys = none := by decide +kernel
theorem b_kN_order : bnd kN_order = none := by decide +kernel
theorem b_kN_chain : bnd kN_chain = some (0, 8191) := by decide +kernel
theorem ii_kN_chain {σ : SG} (h : II σ) (i : Int) : 0 ≤ σ kN_chain i ∧ σ kN_chain i ≤ 8191 := ii_of h b_kN_chain i
theorem b_kN_hotX : bnd kN_hotX = some ((-1000000000), 1000000000) := by decide +kernel
theorem ii_kN_hotX {σ : SG} (h : II σ) (i : Int) : (-1000000000) ≤ σ kN_hotX i ∧ σ kN_hotX i ≤ 1000000000 := ii_of h b_kN_hotX i
theorem b_kN_hotY : bnd kN_hotY = some ((-1000000000), 1000000000) := by decide +kernel
theorem ii_kN_hotY {σ : SG} (h : II σ) (i : Int) : (-1000000000) ≤ σ kN_hotY i ∧ σ kN_hotY i ≤ 1000000000 := ii_of h b_kN_hotY i
theorem b_kN_pieceFrom : bnd kN_pieceFrom = some (0, 8191) := by decide +kernel
theorem ii_kN_pieceFrom {σ : SG} (h : II σ) (i : Int) : 0 ≤ σ kN_pieceFrom i ∧ σ kN_pieceFrom i ≤ 8191 := ii_of h b_kN_pieceFrom i
theorem b_kN_pieceTo : bnd kN_pieceTo = some (0, 8191) := by decide +kernel
theorem ii_kN_pieceTo {σ : SG} (h : II σ) (i : Int) : 0 ≤ σ kN_pieceTo i ∧ σ kN_pieceTo i ≤ 8191 := ii_of h b_kN_pieceTo i
theorem b_kN_pieceMask : bnd kN_pieceMask = some (0, 3) := by decide +kernel
theorem ii_kN_pieceMask {σ : SG} (h : II σ) (i : Int) : 0 ≤ σ kN_pieceMask i ∧ σ kN_pieceMask i ≤ 3 := ii_of h b_kN_pieceMask i
theorem b_kG_actives : bnd kG_actives = some (0, 16384) := by decide +kernel
theorem ii_kG_actives {σ : SG} (h : II σ) (i : Int) : 0 ≤ σ kG_actives i ∧ σ kG_actives i ≤ 16384 := ii_of h b_kG_actives i
theorem b_kG_corners : bnd kG_corners = some (0, 2048) := by decide +kernel
theorem ii_kG_corners {σ : SG} (h : II σ) (i : Int) : 0 ≤ σ kG_corners i ∧ σ kG_corners i ≤ 2048 := ii_of h b_kG_corners i
theorem b_kG_rings : bnd kG_rings = some (0, 512) := by decide +kernel
theorem ii_kG_rings {σ : SG} (h : II σ) (i : Int) : 0 ≤ σ kG_rings i ∧ σ kG_rings i ≤ 512 := ii_of h b_kG_rings i
theorem b_kG_above : bnd kG_above = some (0, 3) := by decide +kernel
theorem ii_kG_above {σ : SG} (h : II σ) (i : Int) : 0 ≤ σ kG_above i ∧ σ kG_above i ≤ 3 := ii_of h b_kG_above i
theorem b_kG_active : bnd kG_active = some (0, 16383) := by decide +kernel
theorem ii_kG_active {σ : SG} (h : II σ) (i : Int) : 0 ≤ σ kG_active i ∧ σ kG_active i ≤ 16383 := ii_of h b_kG_active i
theorem b_kG_isBoundary : bnd kG_isBoundary = some (0, 1) := by decide +kernel
theorem ii_kG_isBoundary {σ : SG} (h : II σ) (i : Int) : 0 ≤ σ kG_isBoundary i ∧ σ kG_isBoundary i ≤ 1 := ii_of h b_kG_isBoundary i
theorem b_kG_goesBack : bnd kG_goesBack = some (0, 1) := by decide +kernel
theorem ii_kG_goesBack {σ : SG} (h : II σ) (i : Int) : 0 ≤ σ kG_goesBack i ∧ σ kG_goesBack i ≤ 1 := ii_of h b_kG_goesBack i
theorem b_kG_begin : bnd kG_begin = some (0, 32768) := by decide +kernel
theorem ii_kG_begin {σ : SG} (h : II σ) (i : Int) : 0 ≤ σ kG_begin i ∧ σ kG_begin i ≤ 32768 := ii_of h b_kG_begin i
theorem b_kG_incident : bnd kG_incident = some (0, 16383) := by decide +kernel
theorem ii_kG_incident {σ : SG} (h : II σ) (i : Int) : 0 ≤ σ kG_incident i ∧ σ kG_incident i ≤ 16383 := ii_of h b_kG_incident i
theorem b_kG_path : bnd kG_path = some (0, 8191) := by decide +kernel
theorem ii_kG_path {σ : SG} (h : II σ) (i : Int) : 0 ≤ σ kG_path i ∧ σ kG_path i ≤ 8191 := ii_of h b_kG_path i
theorem b_kG_onPath : bnd kG_onPath = some (0, 8193) := by decide +kernel
theorem ii_kG_onPath {σ : SG} (h : II σ) (i : Int) : 0 ≤ σ kG_onPath i ∧ σ kG_onPath i ≤ 8193 := ii_of h b_kG_onPath i
theorem b_kG_corner : bnd kG_corner = some (0, 8191) := by decide +kernel
theorem ii_kG_corner {σ : SG} (h : II σ) (i : Int) : 0 ≤ σ kG_corner i ∧ σ kG_corner i ≤ 8191 := ii_of h b_kG_corner i
theorem b_kG_ringBegin : bnd kG_ringBegin = some (0, 2048) := by decide +kernel
theorem ii_kG_ringBegin {σ : SG} (h : II σ) (i : Int) : 0 ≤ σ kG_ringBegin i ∧ σ kG_ringBegin i ≤ 2048 := ii_of h b_kG_ringBegin i
theorem b_kG_ringArea : bnd kG_ringArea = none := by decide +kernel
theorem b_kG_shellOf : bnd kG_shellOf = some ((-1), 511) := by decide +kernel
theorem ii_kG_shellOf {σ : SG} (h : II σ) (i : Int) : (-1) ≤ σ kG_shellOf i ∧ σ kG_shellOf i ≤ 511 := ii_of h b_kG_shellOf i
theorem b_kG_order : bnd kG_order = none := by decide +kernel
theorem b_kT_rims : bnd kT_rims = some (0, 512) := by decide +kernel
theorem ii_kT_rims {σ : SG} (h : II σ) (i : Int) : 0 ≤ σ kT_rims i ∧ σ kT_rims i ≤ 512 := ii_of h b_kT_rims i
theorem b_kT_cuts : bnd kT_cuts = some (0, 512) := by decide +kernel
theorem ii_kT_cuts {σ : SG} (h : II σ) (i : Int) : 0 ≤ σ kT_cuts i ∧ σ kT_cuts i ≤ 512 := ii_of h b_kT_cuts i
theorem b_kT_matrix : bnd kT_matrix = some ((-1), 2) := by decide +kernel
theorem ii_kT_matrix {σ : SG} (h : II σ) (i : Int) : (-1) ≤ σ kT_matrix i ∧ σ kT_matrix i ≤ 2 := ii_of h b_kT_matrix i
theorem b_kT_keys : bnd kT_keys = none := by decide +kernel
theorem b_kT_rimX : bnd kT_rimX = none := by decide +kernel
theorem b_kT_rimY : bnd kT_rimY = none := by decide +kernel
theorem b_kT_rimOwner : bnd kT_rimOwner = some (0, 1) := by decide +kernel
theorem ii_kT_rimOwner {σ : SG} (h : II σ) (i : Int) : 0 ≤ σ kT_rimOwner i ∧ σ kT_rimOwner i ≤ 1 := ii_of h b_kT_rimOwner i
theorem b_kT_share : bnd kT_share = none := by decide +kernel
theorem b_kT_whole : bnd kT_whole = none := by decide +kernel
theorem b_kT_covers : bnd kT_covers = none := by decide +kernel
theorem b_kT_crossed : bnd kT_crossed = none := by decide +kernel
theorem b_kP_places : bnd kP_places = some (0, 1024) := by decide +kernel
theorem ii_kP_places {σ : SG} (h : II σ) (i : Int) : 0 ≤ σ kP_places i ∧ σ kP_places i ≤ 1024 := ii_of h b_kP_places i
theorem b_kP_ways : bnd kP_ways = some (0, 3084) := by decide +kernel
theorem ii_kP_ways {σ : SG} (h : II σ) (i : Int) : 0 ≤ σ kP_ways i ∧ σ kP_ways i ≤ 3084 := ii_of h b_kP_ways i
theorem b_kP_roundSize : bnd kP_roundSize = some (0, 514) := by decide +kernel
theorem ii_kP_roundSize {σ : SG} (h : II σ) (i : Int) : 0 ≤ σ kP_roundSize i ∧ σ kP_roundSize i ≤ 514 := ii_of h b_kP_roundSize i
theorem b_kP_triangleCount : bnd kP_triangleCount = some (0, 512) := by decide +kernel
theorem ii_kP_triangleCount {σ : SG} (h : II σ) (i : Int) : 0 ≤ σ kP_triangleCount i ∧ σ kP_triangleCount i ≤ 512 := ii_of h b_kP_triangleCount i
theorem b_kP_keys : bnd kP_keys = none := by decide +kernel
theorem b_kP_placeX : bnd kP_placeX = some ((-1000000000), 1000000000) := by decide +kernel
theorem ii_kP_placeX {σ : SG} (h : II σ) (i : Int) : (-1000000000) ≤ σ kP_placeX i ∧ σ kP_placeX i ≤ 1000000000 := ii_of h b_kP_placeX i
theorem b_kP_placeY : bnd kP_placeY = some ((-1000000000), 1000000000) := by decide +kernel
theorem ii_kP_placeY {σ : SG} (h : II σ) (i : Int) : (-1000000000) ≤ σ kP_placeY i ∧ σ kP_placeY i ≤ 1000000000 := ii_of h b_kP_placeY i
theorem b_kP_numberOf : bnd kP_numberOf = some ((-1), 1023) := by decide +kernel
theorem ii_kP_numberOf {σ : SG} (h : II σ) (i : Int) : (-1) ≤ σ kP_numberOf i ∧ σ kP_numberOf i ≤ 1023 := ii_of h b_kP_numberOf i
theorem b_kP_placeWith : bnd kP_placeWith = some (0, 1023) := by decide +kernel
theorem ii_kP_placeWith {σ : SG} (h : II σ) (i : Int) : 0 ≤ σ kP_placeWith i ∧ σ kP_placeWith i ≤ 1023 := ii_of h b_kP_placeWith i
theorem b_kP_corner : bnd kP_corner = some (0, 1023) := by decide +kernel
theorem ii_kP_corner {σ : SG} (h : II σ) (i : Int) : 0 ≤ σ kP_corner i ∧ σ kP_corner i ≤ 1023 := ii_of h b_kP_corner i
theorem b_kP_told : bnd kP_told = none := by decide +kernel
theorem b_kP_wayFrom : bnd kP_wayFrom = some (0, 1023) := by decide +kernel
theorem ii_kP_wayFrom {σ : SG} (h : II σ) (i : Int) : 0 ≤ σ kP_wayFrom i ∧ σ kP_wayFrom i ≤ 1023 := ii_of h b_kP_wayFrom i
theorem b_kP_wayTo : bnd kP_wayTo = some (0, 1023) := by decide +kernel
theorem ii_kP_wayTo {σ : SG} (h : II σ) (i : Int) : 0 ≤ σ kP_wayTo i ∧ σ kP_wayTo i ≤ 1023 := ii_of h b_kP_wayTo i
theorem b_kP_round : bnd kP_round = some (0, 1023) := by decide +kernel
theorem ii_kP_round {σ : SG} (h : II σ) (i : Int) : 0 ≤ σ kP_round i ∧ σ kP_round i ≤ 1023 := ii_of h b_kP_round i
theorem b_kP_triangle : bnd kP_triangle = none := by decide +kernel
theorem b_kP_stays : bnd kP_stays = some (0, 1) := by decide +kernel
theorem ii_kP_stays {σ : SG} (h : II σ) (i : Int) : 0 ≤ σ kP_stays i ∧ σ kP_stays i ≤ 1 := ii_of h b_kP_stays i
theorem b_kP_stack : bnd kP_stack = some (0, 2047) := by decide +kernel
theorem ii_kP_stack {σ : SG} (h : II σ) (i : Int) : 0 ≤ σ kP_stack i ∧ σ kP_stack i ≤ 2047 := ii_of h b_kP_stack i
theorem b_kI_x : bnd kI_x = some ((-9223372036854775808), 9223372036854775807) := by decide +kernel
theorem ii_kI_x {σ : SG} (h : II σ) (i : Int) : (-9223372036854775808) ≤ σ kI_x i ∧ σ kI_x i ≤ 9223372036854775807 := ii_of h b_kI_x i
theorem b_kI_y : bnd kI_y = some ((-9223372036854775808), 9223372036854775807) := by decide +kernel
theorem ii_kI_y {σ : SG} (h : II σ) (i : Int) : (-9223372036854775808) ≤ σ kI_y i ∧ σ kI_y i ≤ 9223372036854775807 := ii_of h b_kI_y i
theorem b_kI_used : bnd kI_used = some (0, 280) := by decide +kernel
theorem ii_kI_used {σ : SG} (h : II σ) (i : Int) : 0 ≤ σ kI_used i ∧ σ kI_used i ≤ 280 := ii_of h b_kI_used i
theorem b_kI_sign : bnd kI_sign = some ((-1), 1) := by decide +kernel
theorem ii_kI_sign {σ : SG} (h : II σ) (i : Int) : (-1) ≤ σ kI_sign i ∧ σ kI_sign i ≤ 1 := ii_of h b_kI_sign i
theorem b_kQ_box : bnd kQ_box = some ((-1000000000), 1000000000) := by decide +kernel
theorem ii_kQ_box {σ : SG} (h : II σ) (i : Int) : (-1000000000) ≤ σ kQ_box i ∧ σ kQ_box i ≤ 1000000000 := ii_of h b_kQ_box i
theorem b_kQ_foundSlots : bnd kQ_foundSlots = some (0, 31) := by decide +kernel
theorem ii_kQ_foundSlots {σ : SG} (h : II σ) (i : Int) : 0 ≤ σ kQ_foundSlots i ∧ σ kQ_foundSlots i ≤ 31 := ii_of h b_kQ_foundSlots i
theorem b_kQ_foundKeys : bnd kQ_foundKeys = none := by decide +kernel
theorem b_kR_thrown : bnd kR_thrown = some (0, 4) := by decide +kernel
theorem ii_kR_thrown {σ : SG} (h : II σ) (i : Int) : 0 ≤ σ kR_thrown i ∧ σ kR_thrown i ≤ 4 := ii_of h b_kR_thrown i
theorem b_kR_digits : bnd kR_digits = some (0, 3) := by decide +kernel
theorem ii_kR_digits {σ : SG} (h : II σ) (i : Int) : 0 ≤ σ kR_digits i ∧ σ kR_digits i ≤ 3 := ii_of h b_kR_digits i
theorem b_kR_unit : bnd kR_unit = some (1, 1000) := by decide +kernel
theorem ii_kR_unit {σ : SG} (h : II σ) (i : Int) : 1 ≤ σ kR_unit i ∧ σ kR_unit i ≤ 1000 := ii_of h b_kR_unit i
theorem b_kR_tapeMany : bnd kR_tapeMany = some (0, 65536) := by decide +kernel
theorem ii_kR_tapeMany {σ : SG} (h : II σ) (i : Int) : 0 ≤ σ kR_tapeMany i ∧ σ kR_tapeMany i ≤ 65536 := ii_of h b_kR_tapeMany i
theorem b_kR_resultMany : bnd kR_resultMany = some (0, 131072) := by decide +kernel
theorem ii_kR_resultMany {σ : SG} (h : II σ) (i : Int) : 0 ≤ σ kR_resultMany i ∧ σ kR_resultMany i ≤ 131072 := ii_of h b_kR_resultMany i
theorem b_kR_faultKind : bnd kR_faultKind = some (0, 9) := by decide +kernel
theorem ii_kR_faultKind {σ : SG} (h : II σ) (i : Int) : 0 ≤ σ kR_faultKind i ∧ σ kR_faultKind i ≤ 9 := ii_of h b_kR_faultKind i
theorem b_kR_faultPlace : bnd kR_faultPlace = some (0, 65536) := by decide +kernel
theorem ii_kR_faultPlace {σ : SG} (h : II σ) (i : Int) : 0 ≤ σ kR_faultPlace i ∧ σ kR_faultPlace i ≤ 65536 := ii_of h b_kR_faultPlace i
theorem b_kR_foundMany : bnd kR_foundMany = some (0, 32) := by decide +kernel
theorem ii_kR_foundMany {σ : SG} (h : II σ) (i : Int) : 0 ≤ σ kR_foundMany i ∧ σ kR_foundMany i ≤ 32 := ii_of h b_kR_foundMany i
theorem b_kR_at : bnd kR_at = some (0, 65536) := by decide +kernel
theorem ii_kR_at {σ : SG} (h : II σ) (i : Int) : 0 ≤ σ kR_at i ∧ σ kR_at i ≤ 65536 := ii_of h b_kR_at i
theorem b_kR_size : bnd kR_size = some (0, 65536) := by decide +kernel
theorem ii_kR_size {σ : SG} (h : II σ) (i : Int) : 0 ≤ σ kR_size i ∧ σ kR_size i ≤ 65536 := ii_of h b_kR_size i
theorem b_kR_open : bnd kR_open = some (0, 50) := by decide +kernel
theorem ii_kR_open {σ : SG} (h : II σ) (i : Int) : 0 ≤ σ kR_open i ∧ σ kR_open i ≤ 50 := ii_of h b_kR_open i
theorem b_kR_opened : bnd kR_opened = some (0, 1) := by decide +kernel
theorem ii_kR_opened {σ : SG} (h : II σ) (i : Int) : 0 ≤ σ kR_opened i ∧ σ kR_opened i ≤ 1 := ii_of h b_kR_opened i
theorem b_kR_numberFrom : bnd kR_numberFrom = some (0, 65536) := by decide +kernel
theorem ii_kR_numberFrom {σ : SG} (h : II σ) (i : Int) : 0 ≤ σ kR_numberFrom i ∧ σ kR_numberFrom i ≤ 65536 := ii_of h b_kR_numberFrom i
theorem b_kR_numberTo : bnd kR_numberTo = some (0, 65536) := by decide +kernel
theorem ii_kR_numberTo {σ : SG} (h : II σ) (i : Int) : 0 ≤ σ kR_numberTo i ∧ σ kR_numberTo i ≤ 65536 := ii_of h b_kR_numberTo i
theorem b_kR_numberWhole : bnd kR_numberWhole = some (0, 65536) := by decide +kernel
theorem ii_kR_numberWhole {σ : SG} (h : II σ) (i : Int) : 0 ≤ σ kR_numberWhole i ∧ σ kR_numberWhole i ≤ 65536 := ii_of h b_kR_numberWhole i
theorem b_kR_value : bnd kR_value = some ((-9223372036854775808), 9223372036854775807) := by decide +kernel
theorem ii_kR_value {σ : SG} (h : II σ) (i : Int) : (-9223372036854775808) ≤ σ kR_value i ∧ σ kR_value i ≤ 9223372036854775807 := ii_of h b_kR_value i
theorem b_kR_bigFirst : bnd kR_bigFirst = some (0, 1) := by decide +kernel
theorem ii_kR_bigFirst {σ : SG} (h : II σ) (i : Int) : 0 ≤ σ kR_bigFirst i ∧ σ kR_bigFirst i ≤ 1 := ii_of h b_kR_bigFirst i
theorem b_kR_levels : bnd kR_levels = some (0, 60) := by decide +kernel
theorem ii_kR_levels {σ : SG} (h : II σ) (i : Int) : 0 ≤ σ kR_levels i ∧ σ kR_levels i ≤ 60 := ii_of h b_kR_levels i
theorem b_kR_planAt : bnd kR_planAt = some (0, 67584) := by decide +kernel
theorem ii_kR_planAt {σ : SG} (h : II σ) (i : Int) : 0 ≤ σ kR_planAt i ∧ σ kR_planAt i ≤ 67584 := ii_of h b_kR_planAt i
theorem b_kR_pointAt : bnd kR_pointAt = some (0, 67584) := by decide +kernel
theorem ii_kR_pointAt {σ : SG} (h : II σ) (i : Int) : 0 ≤ σ kR_pointAt i ∧ σ kR_pointAt i ≤ 67584 := ii_of h b_kR_pointAt i
theorem b_kR_segments : bnd kR_segments = some (0, 4200) := by decide +kernel
theorem ii_kR_segments {σ : SG} (h : II σ) (i : Int) : 0 ≤ σ kR_segments i ∧ σ kR_segments i ≤ 4200 := ii_of h b_kR_segments i
theorem b_kR_isInner : bnd kR_isInner = some (0, 1) := by decide +kernel
theorem ii_kR_isInner {σ : SG} (h : II σ) (i : Int) : 0 ≤ σ kR_isInner i ∧ σ kR_isInner i ≤ 1 := ii_of h b_kR_isInner i
theorem b_kR_meetX : bnd kR_meetX = some ((-1000000000), 1000000000) := by decide +kernel
theorem ii_kR_meetX {σ : SG} (h : II σ) (i : Int) : (-1000000000) ≤ σ kR_meetX i ∧ σ kR_meetX i ≤ 1000000000 := ii_of h b_kR_meetX i
theorem b_kR_meetY : bnd kR_meetY = some ((-1000000000), 1000000000) := by decide +kernel
theorem ii_kR_meetY {σ : SG} (h : II σ) (i : Int) : (-1000000000) ≤ σ kR_meetY i ∧ σ kR_meetY i ≤ 1000000000 := ii_of h b_kR_meetY i
theorem b_kR_ringMany : bnd kR_ringMany = some (0, 2048) := by decide +kernel
theorem ii_kR_ringMany {σ : SG} (h : II σ) (i : Int) : 0 ≤ σ kR_ringMany i ∧ σ kR_ringMany i ≤ 2048 := ii_of h b_kR_ringMany i
theorem b_kR_partMany : bnd kR_partMany = some (0, 1025) := by decide +kernel
theorem ii_kR_partMany {σ : SG} (h : II σ) (i : Int) : 0 ≤ σ kR_partMany i ∧ σ kR_partMany i ≤ 1025 := ii_of h b_kR_partMany i
theorem b_kR_touchMany : bnd kR_touchMany = some (0, 4200) := by decide +kernel
theorem ii_kR_touchMany {σ : SG} (h : II σ) (i : Int) : 0 ≤ σ kR_touchMany i ∧ σ kR_touchMany i ≤ 4200 := ii_of h b_kR_touchMany i
theorem b_kR_passes : bnd kR_passes = some (0, 8400) := by decide +kernel
theorem ii_kR_passes {σ : SG} (h : II σ) (i : Int) : 0 ≤ σ kR_passes i ∧ σ kR_passes i ≤ 8400 := ii_of h b_kR_passes i
theorem b_kR_hots : bnd kR_hots = some (0, 8192) := by decide +kernel
theorem ii_kR_hots {σ : SG} (h : II σ) (i : Int) : 0 ≤ σ kR_hots i ∧ σ kR_hots i ≤ 8192 := ii_of h b_kR_hots i
theorem b_kR_chained : bnd kR_chained = some (0, 24577) := by decide +kernel
theorem ii_kR_chained {σ : SG} (h : II σ) (i : Int) : 0 ≤ σ kR_chained i ∧ σ kR_chained i ≤ 24577 := ii_of h b_kR_chained i
theorem b_kR_chainMany : bnd kR_chainMany = some (0, 8193) := by decide +kernel
theorem ii_kR_chainMany {σ : SG} (h : II σ) (i : Int) : 0 ≤ σ kR_chainMany i ∧ σ kR_chainMany i ≤ 8193 := ii_of h b_kR_chainMany i
theorem b_kR_lowNum : bnd kR_lowNum = some ((-4611686018427387904), 4611686018427387904) := by decide +kernel
theorem ii_kR_lowNum {σ : SG} (h : II σ) (i : Int) : (-4611686018427387904) ≤ σ kR_lowNum i ∧ σ kR_lowNum i ≤ 4611686018427387904 := ii_of h b_kR_lowNum i
theorem b_kR_lowDen : bnd kR_lowDen = some (0, 8589934592) := by decide +kernel
theorem ii_kR_lowDen {σ : SG} (h : II σ) (i : Int) : 0 ≤ σ kR_lowDen i ∧ σ kR_lowDen i ≤ 8589934592 := ii_of h b_kR_lowDen i
theorem b_kR_lowOpen : bnd kR_lowOpen = some (0, 1) := by decide +kernel
theorem ii_kR_lowOpen {σ : SG} (h : II σ) (i : Int) : 0 ≤ σ kR_lowOpen i ∧ σ kR_lowOpen i ≤ 1 := ii_of h b_kR_lowOpen i
theorem b_kR_highNum : bnd kR_highNum = some ((-4611686018427387904), 4611686018427387904) := by decide +kernel
theorem ii_kR_highNum {σ : SG} (h : II σ) (i : Int) : (-4611686018427387904) ≤ σ kR_highNum i ∧ σ kR_highNum i ≤ 4611686018427387904 := ii_of h b_kR_highNum i
theorem b_kR_highDen : bnd kR_highDen = some (0, 8589934592) := by decide +kernel
theorem ii_kR_highDen {σ : SG} (h : II σ) (i : Int) : 0 ≤ σ kR_highDen i ∧ σ kR_highDen i ≤ 8589934592 := ii_of h b_kR_highDen i
theorem b_kR_highOpen : bnd kR_highOpen = some (0, 1) := by decide +kernel
theorem ii_kR_highOpen {σ : SG} (h : II σ) (i : Int) : 0 ≤ σ kR_highOpen i ∧ σ kR_highOpen i ≤ 1 := ii_of h b_kR_highOpen i
theorem b_kR_pieces : bnd kR_pieces = some (0, 16384) := by decide +kernel
theorem ii_kR_pieces {σ : SG} (h : II σ) (i : Int) : 0 ≤ σ kR_pieces i ∧ σ kR_pieces i ≤ 16384 := ii_of h b_kR_pieces i
theorem b_kR_edges : bnd kR_edges = some (0, 16384) := by decide +kernel
theorem ii_kR_edges {σ : SG} (h : II σ) (i : Int) : 0 ≤ σ kR_edges i ∧ σ kR_edges i ≤ 16384 := ii_of h b_kR_edges i
theorem b_kR_wayMany : bnd kR_wayMany = some (0, 8193) := by decide +kernel
theorem ii_kR_wayMany {σ : SG} (h : II σ) (i : Int) : 0 ≤ σ kR_wayMany i ∧ σ kR_wayMany i ≤ 8193 := ii_of h b_kR_wayMany i
theorem b_kR_corners : bnd kR_corners = some (0, 33000) := by decide +kernel
theorem ii_kR_corners {σ : SG} (h : II σ) (i : Int) : 0 ≤ σ kR_corners i ∧ σ kR_corners i ≤ 33000 := ii_of h b_kR_corners i
theorem b_kR_outs : bnd kR_outs = some (0, 8193) := by decide +kernel
theorem ii_kR_outs {σ : SG} (h : II σ) (i : Int) : 0 ≤ σ kR_outs i ∧ σ kR_outs i ≤ 8193 := ii_of h b_kR_outs i
theorem b_kR_baseX : bnd kR_baseX = some ((-1000000000), 1000000000) := by decide +kernel
theorem ii_kR_baseX {σ : SG} (h : II σ) (i : Int) : (-1000000000) ≤ σ kR_baseX i ∧ σ kR_baseX i ≤ 1000000000 := ii_of h b_kR_baseX i
theorem b_kR_baseY : bnd kR_baseY = some ((-1000000000), 1000000000) := by decide +kernel
theorem ii_kR_baseY {σ : SG} (h : II σ) (i : Int) : (-1000000000) ≤ σ kR_baseY i ∧ σ kR_baseY i ≤ 1000000000 := ii_of h b_kR_baseY i
theorem b_kR_wayX : bnd kR_wayX = some ((-2000000000), 2000000000) := by decide +kernel
theorem ii_kR_wayX {σ : SG} (h : II σ) (i : Int) : (-2000000000) ≤ σ kR_wayX i ∧ σ kR_wayX i ≤ 2000000000 := ii_of h b_kR_wayX i
theorem b_kR_wayY : bnd kR_wayY = some ((-2000000000), 2000000000) := by decide +kernel
theorem ii_kR_wayY {σ : SG} (h : II σ) (i : Int) : (-2000000000) ≤ σ kR_wayY i ∧ σ kR_wayY i ≤ 2000000000 := ii_of h b_kR_wayY i
theorem b_kR_offX : bnd kR_offX = some ((-2000000000), 2000000000) := by decide +kernel
theorem ii_kR_offX {σ : SG} (h : II σ) (i : Int) : (-2000000000) ≤ σ kR_offX i ∧ σ kR_offX i ≤ 2000000000 := ii_of h b_kR_offX i
theorem b_kR_offY : bnd kR_offY = some ((-2000000000), 2000000000) := by decide +kernel
theorem ii_kR_offY {σ : SG} (h : II σ) (i : Int) : (-2000000000) ≤ σ kR_offY i ∧ σ kR_offY i ≤ 2000000000 := ii_of h b_kR_offY i
theorem b_kR_cutsMany : bnd kR_cutsMany = some (0, 5000) := by decide +kernel
theorem ii_kR_cutsMany {σ : SG} (h : II σ) (i : Int) : 0 ≤ σ kR_cutsMany i ∧ σ kR_cutsMany i ≤ 5000 := ii_of h b_kR_cutsMany i
theorem b_kR_spots : bnd kR_spots = some (0, 1024) := by decide +kernel
theorem ii_kR_spots {σ : SG} (h : II σ) (i : Int) : 0 ≤ σ kR_spots i ∧ σ kR_spots i ≤ 1024 := ii_of h b_kR_spots i
theorem b_kR_hullMany : bnd kR_hullMany = some (0, 1024) := by decide +kernel
theorem ii_kR_hullMany {σ : SG} (h : II σ) (i : Int) : 0 ≤ σ kR_hullMany i ∧ σ kR_hullMany i ≤ 1024 := ii_of h b_kR_hullMany i
theorem b_kR_waits : bnd kR_waits = some (0, 8200) := by decide +kernel
theorem ii_kR_waits {σ : SG} (h : II σ) (i : Int) : 0 ≤ σ kR_waits i ∧ σ kR_waits i ≤ 8200 := ii_of h b_kR_waits i
theorem b_kR_circleMany : bnd kR_circleMany = some (0, 1024) := by decide +kernel
theorem ii_kR_circleMany {σ : SG} (h : II σ) (i : Int) : 0 ≤ σ kR_circleMany i ∧ σ kR_circleMany i ≤ 1024 := ii_of h b_kR_circleMany i
theorem b_kR_triangleMany : bnd kR_triangleMany = some (0, 2100) := by decide +kernel
theorem ii_kR_triangleMany {σ : SG} (h : II σ) (i : Int) : 0 ≤ σ kR_triangleMany i ∧ σ kR_triangleMany i ≤ 2100 := ii_of h b_kR_triangleMany i
theorem b_kR_tape : bnd kR_tape = some ((-128), 127) := by decide +kernel
theorem ii_kR_tape {σ : SG} (h : II σ) (i : Int) : (-128) ≤ σ kR_tape i ∧ σ kR_tape i ≤ 127 := ii_of h b_kR_tape i
theorem b_kR_result : bnd kR_result = some ((-128), 127) := by decide +kernel
theorem ii_kR_result {σ : SG} (h : II σ) (i : Int) : (-128) ≤ σ kR_result i ∧ σ kR_result i ≤ 127 := ii_of h b_kR_result i
theorem b_kR_planMany : bnd kR_planMany = some (0, 2048) := by decide +kernel
theorem ii_kR_planMany {σ : SG} (h : II σ) (i : Int) : 0 ≤ σ kR_planMany i ∧ σ kR_planMany i ≤ 2048 := ii_of h b_kR_planMany i
theorem b_kR_plan : bnd kR_plan = none := by decide +kernel
theorem b_kR_pointMany : bnd kR_pointMany = some (0, 2048) := by decide +kernel
theorem ii_kR_pointMany {σ : SG} (h : II σ) (i : Int) : 0 ≤ σ kR_pointMany i ∧ σ kR_pointMany i ≤ 2048 := ii_of h b_kR_pointMany i
theorem b_kR_xs : bnd kR_xs = some ((-1000000000), 1000000000) := by decide +kernel
theorem ii_kR_xs {σ : SG} (h : II σ) (i : Int) : (-1000000000) ≤ σ kR_xs i ∧ σ kR_xs i ≤ 1000000000 := ii_of h b_kR_xs i
theorem b_kR_ys : bnd kR_ys = some ((-1000000000), 1000000000) := by decide +kernel
theorem ii_kR_ys {σ : SG} (h : II σ) (i : Int) : (-1000000000) ≤ σ kR_ys i ∧ σ kR_ys i ≤ 1000000000 := ii_of h b_kR_ys i
theorem b_kR_place : bnd kR_place = some ((-1), 4096) := by decide +kernel
theorem ii_kR_place {σ : SG} (h : II σ) (i : Int) : (-1) ≤ σ kR_place i ∧ σ kR_place i ≤ 4096 := ii_of h b_kR_place i
theorem b_kR_foundSlot : bnd kR_foundSlot = some (0, 31) := by decide +kernel
theorem ii_kR_foundSlot {σ : SG} (h : II σ) (i : Int) : 0 ≤ σ kR_foundSlot i ∧ σ kR_foundSlot i ≤ 31 := ii_of h b_kR_foundSlot i
theorem b_kR_openAt : bnd kR_openAt = some (0, 2047) := by decide +kernel
theorem ii_kR_openAt {σ : SG} (h : II σ) (i : Int) : 0 ≤ σ kR_openAt i ∧ σ kR_openAt i ≤ 2047 := ii_of h b_kR_openAt i
theorem b_kR_left : bnd kR_left = some ((-9223372036854775808), 9223372036854775807) := by decide +kernel
theorem ii_kR_left {σ : SG} (h : II σ) (i : Int) : (-9223372036854775808) ≤ σ kR_left i ∧ σ kR_left i ≤ 9223372036854775807 := ii_of h b_kR_left i
theorem b_kR_partKind : bnd kR_partKind = some (0, 7) := by decide +kernel
theorem ii_kR_partKind {σ : SG} (h : II σ) (i : Int) : 0 ≤ σ kR_partKind i ∧ σ kR_partKind i ≤ 7 := ii_of h b_kR_partKind i
theorem b_kR_lowX : bnd kR_lowX = some ((-1000000000), 4000000000) := by decide +kernel
theorem ii_kR_lowX {σ : SG} (h : II σ) (i : Int) : (-1000000000) ≤ σ kR_lowX i ∧ σ kR_lowX i ≤ 4000000000 := ii_of h b_kR_lowX i
theorem b_kR_lowY : bnd kR_lowY = some ((-1000000000), 4000000000) := by decide +kernel
theorem ii_kR_lowY {σ : SG} (h : II σ) (i : Int) : (-1000000000) ≤ σ kR_lowY i ∧ σ kR_lowY i ≤ 4000000000 := ii_of h b_kR_lowY i
theorem b_kR_highX : bnd kR_highX = some ((-4000000000), 1000000000) := by decide +kernel
theorem ii_kR_highX {σ : SG} (h : II σ) (i : Int) : (-4000000000) ≤ σ kR_highX i ∧ σ kR_highX i ≤ 1000000000 := ii_of h b_kR_highX i
theorem b_kR_highY : bnd kR_highY = some ((-4000000000), 1000000000) := by decide +kernel
theorem ii_kR_highY {σ : SG} (h : II σ) (i : Int) : (-4000000000) ≤ σ kR_highY i ∧ σ kR_highY i ≤ 1000000000 := ii_of h b_kR_highY i
theorem b_kR_w : bnd kR_w = some (0, 4294967295) := by decide +kernel
theorem ii_kR_w {σ : SG} (h : II σ) (i : Int) : 0 ≤ σ kR_w i ∧ σ kR_w i ≤ 4294967295 := ii_of h b_kR_w i
theorem b_kR_limbs : bnd kR_limbs = some (0, 300) := by decide +kernel
theorem ii_kR_limbs {σ : SG} (h : II σ) (i : Int) : 0 ≤ σ kR_limbs i ∧ σ kR_limbs i ≤ 300 := ii_of h b_kR_limbs i
theorem b_kR_sign : bnd kR_sign = some ((-1), 1) := by decide +kernel
theorem ii_kR_sign {σ : SG} (h : II σ) (i : Int) : (-1) ≤ σ kR_sign i ∧ σ kR_sign i ≤ 1 := ii_of h b_kR_sign i
theorem b_kR_signX : bnd kR_signX = some ((-9223372036854775808), 9223372036854775807) := by decide +kernel
theorem ii_kR_signX {σ : SG} (h : II σ) (i : Int) : (-9223372036854775808) ≤ σ kR_signX i ∧ σ kR_signX i ≤ 9223372036854775807 := ii_of h b_kR_signX i
theorem b_kR_signY : bnd kR_signY = some ((-9223372036854775808), 9223372036854775807) := by decide +kernel
theorem ii_kR_signY {σ : SG} (h : II σ) (i : Int) : (-9223372036854775808) ≤ σ kR_signY i ∧ σ kR_signY i ≤ 9223372036854775807 := ii_of h b_kR_signY i
theorem b_kR_sx : bnd kR_sx = some ((-1000000000), 1000000000) := by decide +kernel
theorem ii_kR_sx {σ : SG} (h : II σ) (i : Int) : (-1000000000) ≤ σ kR_sx i ∧ σ kR_sx i ≤ 1000000000 := ii_of h b_kR_sx i
theorem b_kR_sy : bnd kR_sy = some ((-1000000000), 1000000000) := by decide +kernel
theorem ii_kR_sy {σ : SG} (h : II σ) (i : Int) : (-1000000000) ≤ σ kR_sy i ∧ σ kR_sy i ≤ 1000000000 := ii_of h b_kR_sy i
theorem b_kR_ex : bnd kR_ex = some ((-1000000000), 1000000000) := by decide +kernel
theorem ii_kR_ex {σ : SG} (h : II σ) (i : Int) : (-1000000000) ≤ σ kR_ex i ∧ σ kR_ex i ≤ 1000000000 := ii_of h b_kR_ex i
theorem b_kR_ey : bnd kR_ey = some ((-1000000000), 1000000000) := by decide +kernel
theorem ii_kR_ey {σ : SG} (h : II σ) (i : Int) : (-1000000000) ≤ σ kR_ey i ∧ σ kR_ey i ≤ 1000000000 := ii_of h b_kR_ey i
theorem b_kR_ringOf : bnd kR_ringOf = some (0, 2048) := by decide +kernel
theorem ii_kR_ringOf {σ : SG} (h : II σ) (i : Int) : 0 ≤ σ kR_ringOf i ∧ σ kR_ringOf i ≤ 2048 := ii_of h b_kR_ringOf i
theorem b_kR_numberOf : bnd kR_numberOf = some (0, 2048) := by decide +kernel
theorem ii_kR_numberOf {σ : SG} (h : II σ) (i : Int) : 0 ≤ σ kR_numberOf i ∧ σ kR_numberOf i ≤ 2048 := ii_of h b_kR_numberOf i
theorem b_kR_shapeOf : bnd kR_shapeOf = some (0, 1) := by decide +kernel
theorem ii_kR_shapeOf {σ : SG} (h : II σ) (i : Int) : 0 ≤ σ kR_shapeOf i ∧ σ kR_shapeOf i ≤ 1 := ii_of h b_kR_shapeOf i
theorem b_kR_ringFrom : bnd kR_ringFrom = some (0, 67584) := by decide +kernel
theorem ii_kR_ringFrom {σ : SG} (h : II σ) (i : Int) : 0 ≤ σ kR_ringFrom i ∧ σ kR_ringFrom i ≤ 67584 := ii_of h b_kR_ringFrom i
theorem b_kR_ringSize : bnd kR_ringSize = some (0, 2048) := by decide +kernel
theorem ii_kR_ringSize {σ : SG} (h : II σ) (i : Int) : 0 ≤ σ kR_ringSize i ∧ σ kR_ringSize i ≤ 2048 := ii_of h b_kR_ringSize i
theorem b_kR_ringPart : bnd kR_ringPart = some (0, 1025) := by decide +kernel
theorem ii_kR_ringPart {σ : SG} (h : II σ) (i : Int) : 0 ≤ σ kR_ringPart i ∧ σ kR_ringPart i ≤ 1025 := ii_of h b_kR_ringPart i
theorem b_kR_ringNumber : bnd kR_ringNumber = some (0, 2047) := by decide +kernel
theorem ii_kR_ringNumber {σ : SG} (h : II σ) (i : Int) : 0 ≤ σ kR_ringNumber i ∧ σ kR_ringNumber i ≤ 2047 := ii_of h b_kR_ringNumber i
theorem b_kR_firstSegment : bnd kR_firstSegment = some (0, 4200) := by decide +kernel
theorem ii_kR_firstSegment {σ : SG} (h : II σ) (i : Int) : 0 ≤ σ kR_firstSegment i ∧ σ kR_firstSegment i ≤ 4200 := ii_of h b_kR_firstSegment i
theorem b_kR_partFrom : bnd kR_partFrom = some (0, 2048) := by decide +kernel
theorem ii_kR_partFrom {σ : SG} (h : II σ) (i : Int) : 0 ≤ σ kR_partFrom i ∧ σ kR_partFrom i ≤ 2048 := ii_of h b_kR_partFrom i
theorem b_kR_touchX : bnd kR_touchX = some ((-1000000000), 1000000000) := by decide +kernel
theorem ii_kR_touchX {σ : SG} (h : II σ) (i : Int) : (-1000000000) ≤ σ kR_touchX i ∧ σ kR_touchX i ≤ 1000000000 := ii_of h b_kR_touchX i
theorem b_kR_touchY : bnd kR_touchY = some ((-1000000000), 1000000000) := by decide +kernel
theorem ii_kR_touchY {σ : SG} (h : II σ) (i : Int) : (-1000000000) ≤ σ kR_touchY i ∧ σ kR_touchY i ≤ 1000000000 := ii_of h b_kR_touchY i
theorem b_kR_passRing : bnd kR_passRing = some (0, 2047) := by decide +kernel
theorem ii_kR_passRing {σ : SG} (h : II σ) (i : Int) : 0 ≤ σ kR_passRing i ∧ σ kR_passRing i ≤ 2047 := ii_of h b_kR_passRing i
theorem b_kR_passTouch : bnd kR_passTouch = some (0, 4199) := by decide +kernel
theorem ii_kR_passTouch {σ : SG} (h : II σ) (i : Int) : 0 ≤ σ kR_passTouch i ∧ σ kR_passTouch i ≤ 4199 := ii_of h b_kR_passTouch i
theorem b_kR_joined : bnd kR_joined = some (0, 6299) := by decide +kernel
theorem ii_kR_joined {σ : SG} (h : II σ) (i : Int) : 0 ≤ σ kR_joined i ∧ σ kR_joined i ≤ 6299 := ii_of h b_kR_joined i
theorem b_kR_hotX : bnd kR_hotX = some ((-1000000000), 1000000000) := by decide +kernel
theorem ii_kR_hotX {σ : SG} (h : II σ) (i : Int) : (-1000000000) ≤ σ kR_hotX i ∧ σ kR_hotX i ≤ 1000000000 := ii_of h b_kR_hotX i
theorem b_kR_hotY : bnd kR_hotY = some ((-1000000000), 1000000000) := by decide +kernel
theorem ii_kR_hotY {σ : SG} (h : II σ) (i : Int) : (-1000000000) ≤ σ kR_hotY i ∧ σ kR_hotY i ≤ 1000000000 := ii_of h b_kR_hotY i
theorem b_kR_chain : bnd kR_chain = some (0, 8191) := by decide +kernel
theorem ii_kR_chain {σ : SG} (h : II σ) (i : Int) : 0 ≤ σ kR_chain i ∧ σ kR_chain i ≤ 8191 := ii_of h b_kR_chain i
theorem b_kR_chainNum : bnd kR_chainNum = some ((-4611686018427387904), 4611686018427387904) := by decide +kernel
theorem ii_kR_chainNum {σ : SG} (h : II σ) (i : Int) : (-4611686018427387904) ≤ σ kR_chainNum i ∧ σ kR_chainNum i ≤ 4611686018427387904 := ii_of h b_kR_chainNum i
theorem b_kR_chainDen : bnd kR_chainDen = some (0, 8589934592) := by decide +kernel
theorem ii_kR_chainDen {σ : SG} (h : II σ) (i : Int) : 0 ≤ σ kR_chainDen i ∧ σ kR_chainDen i ≤ 8589934592 := ii_of h b_kR_chainDen i
theorem b_kR_chainOpen : bnd kR_chainOpen = some (0, 1) := by decide +kernel
theorem ii_kR_chainOpen {σ : SG} (h : II σ) (i : Int) : 0 ≤ σ kR_chainOpen i ∧ σ kR_chainOpen i ≤ 1 := ii_of h b_kR_chainOpen i
theorem b_kR_pieceFrom : bnd kR_pieceFrom = some (0, 8191) := by decide +kernel
theorem ii_kR_pieceFrom {σ : SG} (h : II σ) (i : Int) : 0 ≤ σ kR_pieceFrom i ∧ σ kR_pieceFrom i ≤ 8191 := ii_of h b_kR_pieceFrom i
theorem b_kR_pieceTo : bnd kR_pieceTo = some (0, 8191) := by decide +kernel
theorem ii_kR_pieceTo {σ : SG} (h : II σ) (i : Int) : 0 ≤ σ kR_pieceTo i ∧ σ kR_pieceTo i ≤ 8191 := ii_of h b_kR_pieceTo i
theorem b_kR_pieceBits : bnd kR_pieceBits = some (0, 3) := by decide +kernel
theorem ii_kR_pieceBits {σ : SG} (h : II σ) (i : Int) : 0 ≤ σ kR_pieceBits i ∧ σ kR_pieceBits i ≤ 3 := ii_of h b_kR_pieceBits i
theorem b_kR_edgeFrom : bnd kR_edgeFrom = some (0, 8191) := by decide +kernel
theorem ii_kR_edgeFrom {σ : SG} (h : II σ) (i : Int) : 0 ≤ σ kR_edgeFrom i ∧ σ kR_edgeFrom i ≤ 8191 := ii_of h b_kR_edgeFrom i
theorem b_kR_edgeTo : bnd kR_edgeTo = some (0, 8191) := by decide +kernel
theorem ii_kR_edgeTo {σ : SG} (h : II σ) (i : Int) : 0 ≤ σ kR_edgeTo i ∧ σ kR_edgeTo i ≤ 8191 := ii_of h b_kR_edgeTo i
theorem b_kR_edgeDone : bnd kR_edgeDone = some (0, 1) := by decide +kernel
theorem ii_kR_edgeDone {σ : SG} (h : II σ) (i : Int) : 0 ≤ σ kR_edgeDone i ∧ σ kR_edgeDone i ≤ 1 := ii_of h b_kR_edgeDone i
theorem b_kR_way : bnd kR_way = some (0, 8191) := by decide +kernel
theorem ii_kR_way {σ : SG} (h : II σ) (i : Int) : 0 ≤ σ kR_way i ∧ σ kR_way i ≤ 8191 := ii_of h b_kR_way i
theorem b_kR_onWay : bnd kR_onWay = some ((-1), 8193) := by decide +kernel
theorem ii_kR_onWay {σ : SG} (h : II σ) (i : Int) : (-1) ≤ σ kR_onWay i ∧ σ kR_onWay i ≤ 8193 := ii_of h b_kR_onWay i
theorem b_kR_corner : bnd kR_corner = some (0, 8191) := by decide +kernel
theorem ii_kR_corner {σ : SG} (h : II σ) (i : Int) : 0 ≤ σ kR_corner i ∧ σ kR_corner i ≤ 8191 := ii_of h b_kR_corner i
theorem b_kR_outFrom : bnd kR_outFrom = some (0, 33000) := by decide +kernel
theorem ii_kR_outFrom {σ : SG} (h : II σ) (i : Int) : 0 ≤ σ kR_outFrom i ∧ σ kR_outFrom i ≤ 33000 := ii_of h b_kR_outFrom i
theorem b_kR_outMany : bnd kR_outMany = some (0, 33000) := by decide +kernel
theorem ii_kR_outMany {σ : SG} (h : II σ) (i : Int) : 0 ≤ σ kR_outMany i ∧ σ kR_outMany i ≤ 33000 := ii_of h b_kR_outMany i
theorem b_kR_outArea : bnd kR_outArea = none := by decide +kernel
theorem b_kR_outShell : bnd kR_outShell = some ((-1), 8192) := by decide +kernel
theorem ii_kR_outShell {σ : SG} (h : II σ) (i : Int) : (-1) ≤ σ kR_outShell i ∧ σ kR_outShell i ≤ 8192 := ii_of h b_kR_outShell i
theorem b_kR_slotOf : bnd kR_slotOf = some (0, 31) := by decide +kernel
theorem ii_kR_slotOf {σ : SG} (h : II σ) (i : Int) : 0 ≤ σ kR_slotOf i ∧ σ kR_slotOf i ≤ 31 := ii_of h b_kR_slotOf i
theorem b_kR_typeOf : bnd kR_typeOf = some ((-1), 2) := by decide +kernel
theorem ii_kR_typeOf {σ : SG} (h : II σ) (i : Int) : (-1) ≤ σ kR_typeOf i ∧ σ kR_typeOf i ≤ 2 := ii_of h b_kR_typeOf i
theorem b_kR_partsOf : bnd kR_partsOf = some (0, 2048) := by decide +kernel
theorem ii_kR_partsOf {σ : SG} (h : II σ) (i : Int) : 0 ≤ σ kR_partsOf i ∧ σ kR_partsOf i ≤ 2048 := ii_of h b_kR_partsOf i
theorem b_kR_segmentsOf : bnd kR_segmentsOf = some (0, 4200) := by decide +kernel
theorem ii_kR_segmentsOf {σ : SG} (h : II σ) (i : Int) : 0 ≤ σ kR_segmentsOf i ∧ σ kR_segmentsOf i ≤ 4200 := ii_of h b_kR_segmentsOf i
theorem b_kR_hasInside : bnd kR_hasInside = some (0, 1) := by decide +kernel
theorem ii_kR_hasInside {σ : SG} (h : II σ) (i : Int) : 0 ≤ σ kR_hasInside i ∧ σ kR_hasInside i ≤ 1 := ii_of h b_kR_hasInside i
theorem b_kR_lineEnd : bnd kR_lineEnd = some (0, 67583) := by decide +kernel
theorem ii_kR_lineEnd {σ : SG} (h : II σ) (i : Int) : 0 ≤ σ kR_lineEnd i ∧ σ kR_lineEnd i ≤ 67583 := ii_of h b_kR_lineEnd i
theorem b_kR_lineEnds : bnd kR_lineEnds = some (0, 2100) := by decide +kernel
theorem ii_kR_lineEnds {σ : SG} (h : II σ) (i : Int) : 0 ≤ σ kR_lineEnds i ∧ σ kR_lineEnds i ≤ 2100 := ii_of h b_kR_lineEnds i
theorem b_kR_matrix : bnd kR_matrix = some ((-1), 2) := by decide +kernel
theorem ii_kR_matrix {σ : SG} (h : II σ) (i : Int) : (-1) ≤ σ kR_matrix i ∧ σ kR_matrix i ≤ 2 := ii_of h b_kR_matrix i
theorem b_kR_partNum : bnd kR_partNum = none := by decide +kernel
theorem b_kR_partDen : bnd kR_partDen = none := by decide +kernel
theorem b_kR_spotX : bnd kR_spotX = some ((-1000000000), 1000000000) := by decide +kernel
theorem ii_kR_spotX {σ : SG} (h : II σ) (i : Int) : (-1000000000) ≤ σ kR_spotX i ∧ σ kR_spotX i ≤ 1000000000 := ii_of h b_kR_spotX i
theorem b_kR_spotY : bnd kR_spotY = some ((-1000000000), 1000000000) := by decide +kernel
theorem ii_kR_spotY {σ : SG} (h : II σ) (i : Int) : (-1000000000) ≤ σ kR_spotY i ∧ σ kR_spotY i ≤ 1000000000 := ii_of h b_kR_spotY i
theorem b_kR_hullSpot : bnd kR_hullSpot = some (0, 1023) := by decide +kernel
theorem ii_kR_hullSpot {σ : SG} (h : II σ) (i : Int) : 0 ≤ σ kR_hullSpot i ∧ σ kR_hullSpot i ≤ 1023 := ii_of h b_kR_hullSpot i
theorem b_kR_isDone : bnd kR_isDone = some (0, 1) := by decide +kernel
theorem ii_kR_isDone {σ : SG} (h : II σ) (i : Int) : 0 ≤ σ kR_isDone i ∧ σ kR_isDone i ≤ 1 := ii_of h b_kR_isDone i
theorem b_kR_waitFrom : bnd kR_waitFrom = some (0, 1023) := by decide +kernel
theorem ii_kR_waitFrom {σ : SG} (h : II σ) (i : Int) : 0 ≤ σ kR_waitFrom i ∧ σ kR_waitFrom i ≤ 1023 := ii_of h b_kR_waitFrom i
theorem b_kR_waitTo : bnd kR_waitTo = some (0, 1023) := by decide +kernel
theorem ii_kR_waitTo {σ : SG} (h : II σ) (i : Int) : 0 ≤ σ kR_waitTo i ∧ σ kR_waitTo i ≤ 1023 := ii_of h b_kR_waitTo i
theorem b_kR_onCircle : bnd kR_onCircle = some (0, 1023) := by decide +kernel
theorem ii_kR_onCircle {σ : SG} (h : II σ) (i : Int) : 0 ≤ σ kR_onCircle i ∧ σ kR_onCircle i ≤ 1023 := ii_of h b_kR_onCircle i
theorem b_kR_triangleA : bnd kR_triangleA = some (0, 1023) := by decide +kernel
theorem ii_kR_triangleA {σ : SG} (h : II σ) (i : Int) : 0 ≤ σ kR_triangleA i ∧ σ kR_triangleA i ≤ 1023 := ii_of h b_kR_triangleA i
theorem b_kR_triangleB : bnd kR_triangleB = some (0, 1023) := by decide +kernel
theorem ii_kR_triangleB {σ : SG} (h : II σ) (i : Int) : 0 ≤ σ kR_triangleB i ∧ σ kR_triangleB i ≤ 1023 := ii_of h b_kR_triangleB i
theorem b_kR_triangleC : bnd kR_triangleC = some (0, 1023) := by decide +kernel
theorem ii_kR_triangleC {σ : SG} (h : II σ) (i : Int) : 0 ≤ σ kR_triangleC i ∧ σ kR_triangleC i ≤ 1023 := ii_of h b_kR_triangleC i
theorem b_kR_stays : bnd kR_stays = some (0, 1) := by decide +kernel
theorem ii_kR_stays {σ : SG} (h : II σ) (i : Int) : 0 ≤ σ kR_stays i ∧ σ kR_stays i ≤ 1 := ii_of h b_kR_stays i
theorem b_kR_spanFrom : bnd kR_spanFrom = some (0, 67583) := by decide +kernel
theorem ii_kR_spanFrom {σ : SG} (h : II σ) (i : Int) : 0 ≤ σ kR_spanFrom i ∧ σ kR_spanFrom i ≤ 67583 := ii_of h b_kR_spanFrom i
theorem b_kR_spanTo : bnd kR_spanTo = some (0, 67583) := by decide +kernel
theorem ii_kR_spanTo {σ : SG} (h : II σ) (i : Int) : 0 ≤ σ kR_spanTo i ∧ σ kR_spanTo i ≤ 67583 := ii_of h b_kR_spanTo i
/-- the reference's fails: false, so nothing was thrown and what was asked is not so -/
theorem s_R_fails {σ : SG} {is_0 : Bool} {which_0 : Int} (hσ : II σ) (hw : 1 ≤ which_0 ∧ which_0 ≤ 4) : wp_ (fR_fails σ is_0 which_0) (fun r => (r.1 = false → is_0 = false) ∧ II r.2 ∧ FR [kR_thrown] σ r.2) := by
  unfold fR_fails
  have c := ii_kR_thrown hσ 0
  refine wp_wfI hσ b_kR_thrown (by split <;> omega) (fun τ hτ e => ?_)
  refine wp_some ⟨?_, hτ, FR_sg e⟩
  intro h
  dsimp only at h
  rw [sg_val e, decide_eq_false_iff_not, Decidable.not_not] at h
  cases is_0 with
  | false => rfl
  | true =>
    exfalso
    by_cases q : w32 (σ kR_thrown 0) = 0
    · rw [if_pos ⟨rfl, q⟩, w32_of (by omega) (by omega)] at h
      omega
    · rw [if_neg (fun z => q z.2)] at h; exact q h
theorem b0A_plans : ∀ i, i < 33 → bnd (kA_plans (34 + 4 * i)) = some (0, 2048) := by decide +kernel
theorem bA_plans {s : Nat} (h : isS s) : bnd (kA_plans s) = some (0, 2048) := by
  obtain ⟨i, hi, rfl⟩ := isS_e h
  exact b0A_plans i hi
theorem iiA_plans {σ : SG} {s : Nat} (h : II σ) (hs : isS s) (i : Int) : 0 ≤ σ (kA_plans s) i ∧ σ (kA_plans s) i ≤ 2048 := ii_of h (bA_plans hs) i
theorem b0A_points : ∀ i, i < 33 → bnd (kA_points (34 + 4 * i)) = some (0, 2048) := by decide +kernel
theorem bA_points {s : Nat} (h : isS s) : bnd (kA_points s) = some (0, 2048) := by
  obtain ⟨i, hi, rfl⟩ := isS_e h
  exact b0A_points i hi
theorem iiA_points {σ : SG} {s : Nat} (h : II σ) (hs : isS s) (i : Int) : 0 ≤ σ (kA_points s) i ∧ σ (kA_points s) i ≤ 2048 := ii_of h (bA_points hs) i
theorem b0A_x : ∀ i, i < 33 → bnd (kA_x (34 + 4 * i)) = some ((-1000000000), 1000000000) := by decide +kernel
theorem bA_x {s : Nat} (h : isS s) : bnd (kA_x s) = some ((-1000000000), 1000000000) := by
  obtain ⟨i, hi, rfl⟩ := isS_e h
  exact b0A_x i hi
theorem iiA_x {σ : SG} {s : Nat} (h : II σ) (hs : isS s) (i : Int) : (-1000000000) ≤ σ (kA_x s) i ∧ σ (kA_x s) i ≤ 1000000000 := ii_of h (bA_x hs) i
theorem b0A_y : ∀ i, i < 33 → bnd (kA_y (34 + 4 * i)) = some ((-1000000000), 1000000000) := by decide +kernel
theorem bA_y {s : Nat} (h : isS s) : bnd (kA_y s) = some ((-1000000000), 1000000000) := by
  obtain ⟨i, hi, rfl⟩ := isS_e h
  exact b0A_y i hi
theorem iiA_y {σ : SG} {s : Nat} (h : II σ) (hs : isS s) (i : Int) : (-1000000000) ≤ σ (kA_y s) i ∧ σ (kA_y s) i ≤ 1000000000 := ii_of h (bA_y hs) i
theorem b0A_plan : ∀ i, i < 33 → bnd (kA_plan (34 + 4 * i)) = none := by decide +kernel
theorem bA_plan {s : Nat} (h : isS s) : bnd (kA_plan s) = none := by
  obtain ⟨i, hi, rfl⟩ := isS_e h
  exact b0A_plan i hi
abbrev isE (s : Nat) : Prop := s = 179 ∨ s = 194 ∨ s = 223
theorem bE_ax {s : Nat} (h : isE s) : bnd (kE_ax s) = some ((-1000000000), 1000000000) := by
  rcases h with rfl | rfl | rfl <;> decide +kernel
theorem iiE_ax {σ : SG} {s : Nat} (h : II σ) (hs : isE s) (i : Int) : (-1000000000) ≤ σ (kE_ax s) i ∧ σ (kE_ax s) i ≤ 1000000000 := ii_of h (bE_ax hs) i
theorem bE_ay {s : Nat} (h : isE s) : bnd (kE_ay s) = some ((-1000000000), 1000000000) := by
  rcases h with rfl | rfl | rfl <;> decide +kernel
theorem iiE_ay {σ : SG} {s : Nat} (h : II σ) (hs : isE s) (i : Int) : (-1000000000) ≤ σ (kE_ay s) i ∧ σ (kE_ay s) i ≤ 1000000000 := ii_of h (bE_ay hs) i
theorem bE_bx {s : Nat} (h : isE s) : bnd (kE_bx s) = some ((-1000000000), 1000000000) := by
  rcases h with rfl | rfl | rfl <;> decide +kernel
theorem iiE_bx {σ : SG} {s : Nat} (h : II σ) (hs : isE s) (i : Int) : (-1000000000) ≤ σ (kE_bx s) i ∧ σ (kE_bx s) i ≤ 1000000000 := ii_of h (bE_bx hs) i
theorem bE_by {s : Nat} (h : isE s) : bnd (kE_by s) = some ((-1000000000), 1000000000) := by
  rcases h with rfl | rfl | rfl <;> decide +kernel
theorem iiE_by {σ : SG} {s : Nat} (h : II σ) (hs : isE s) (i : Int) : (-1000000000) ≤ σ (kE_by s) i ∧ σ (kE_by s) i ≤ 1000000000 := ii_of h (bE_by hs) i
theorem bE_size {s : Nat} (h : isE s) : bnd (kE_size s) = some (0, 2048) := by
  rcases h with rfl | rfl | rfl <;> decide +kernel
theorem iiE_size {σ : SG} {s : Nat} (h : II σ) (hs : isE s) (i : Int) : 0 ≤ σ (kE_size s) i ∧ σ (kE_size s) i ≤ 2048 := ii_of h (bE_size hs) i
theorem bE_placeX {s : Nat} (h : isE s) : bnd (kE_placeX s) = some ((-1000000000), 1000000000) := by
  rcases h with rfl | rfl | rfl <;> decide +kernel
theorem iiE_placeX {σ : SG} {s : Nat} (h : II σ) (hs : isE s) (i : Int) : (-1000000000) ≤ σ (kE_placeX s) i ∧ σ (kE_placeX s) i ≤ 1000000000 := ii_of h (bE_placeX hs) i
theorem bE_placeY {s : Nat} (h : isE s) : bnd (kE_placeY s) = some ((-1000000000), 1000000000) := by
  rcases h with rfl | rfl | rfl <;> decide +kernel
theorem iiE_placeY {σ : SG} {s : Nat} (h : II σ) (hs : isE s) (i : Int) : (-1000000000) ≤ σ (kE_placeY s) i ∧ σ (kE_placeY s) i ≤ 1000000000 := ii_of h (bE_placeY hs) i
theorem bE_mark179 : bnd (kE_mark 179) = some (0, 2047) := by decide +kernel
theorem iiE_mark179 {σ : SG} (h : II σ) (i : Int) : 0 ≤ σ (kE_mark 179) i ∧ σ (kE_mark 179) i ≤ 2047 := ii_of h bE_mark179 i
theorem bE_mark194 : bnd (kE_mark 194) = some (0, 3) := by decide +kernel
theorem iiE_mark194 {σ : SG} (h : II σ) (i : Int) : 0 ≤ σ (kE_mark 194) i ∧ σ (kE_mark 194) i ≤ 3 := ii_of h bE_mark194 i
theorem bE_mark223 : bnd (kE_mark 223) = some (0, 1) := by decide +kernel
theorem iiE_mark223 {σ : SG} (h : II σ) (i : Int) : 0 ≤ σ (kE_mark 223) i ∧ σ (kE_mark 223) i ≤ 1 := ii_of h bE_mark223 i
theorem iiE_mark {σ : SG} {s : Nat} (h : II σ) (hs : isE s) (i : Int) : 0 ≤ σ (kE_mark s) i ∧ σ (kE_mark s) i ≤ 2047 := by
  rcases hs with rfl | rfl | rfl
  · exact iiE_mark179 h i
  · have := iiE_mark194 h i; omega
  · have := iiE_mark223 h i; omega
